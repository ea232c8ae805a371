/-! ===== the code rows of the methods, 3 ===== -/
/-- HeavierServes.party(I)I -/
def hs_k134 : hs_K := [
  [hz_r (.iload_n 1) 1, hz_r (.ifCond .lt 9) 3, hz_n, hz_n, hz_r (.iload_n 1) 1, hz_r (.bipush 99) 2, hz_n, hz_r (.if_icmp .le 8) 3, hz_n, hz_n, hz_m (.bipush (-2)) 2 [] [false, false], hz_n, hz_r (.goto 11) 3, hz_n, hz_n, hz_r (.aload_n 0) 1],
  [hz_m (.getfield 84) 3 [11, 10] [], hz_n, hz_n, hz_r (.iload_n 1) 1, hz_m (.invokevirtual 281) 3 [22, 2, 1, 0] [], hz_n, hz_n, hz_m (.ireturn) 1 [] [false, false]]]
/-- HeavierServes.byTurns(II)I -/
def hs_k135 : hs_K := [
  [hz_r (.iload_n 1) 1, hz_r (.ifCond .lt 18) 3, hz_n, hz_n, hz_r (.iload_n 1) 1, hz_r (.iconst 4) 1, hz_r (.if_icmp .ge 13) 3, hz_n, hz_n, hz_r (.iload_n 2) 1, hz_r (.ifCond .lt 9) 3, hz_n, hz_n, hz_r (.iload_n 2) 1, hz_r (.bipush 99) 2, hz_n],
  [hz_r (.if_icmp .le 7) 3, hz_n, hz_n, hz_m (.iconst (-1)) 1 [] [false, false, false], hz_r (.goto 12) 3, hz_n, hz_n, hz_r (.aload_n 0) 1, hz_m (.getfield 84) 3 [11, 10] [], hz_n, hz_n, hz_r (.iload_n 1) 1, hz_r (.iload_n 2) 1, hz_m (.invokevirtual 284) 3 [24, 3, 1, 0] [], hz_n, hz_n],
  [hz_m (.ireturn) 1 [] [false, false, false]]]
/-- HeavierServes.fool(II)I -/
def hs_k136 : hs_K := [
  [hz_r (.aload_n 0) 1, hz_m (.getfield 26) 3 [11, 2] [], hz_n, hz_n, hz_r (.iload_n 1) 1, hz_m (.invokevirtual 130) 3 [68, 2, 1, 8] [], hz_n, hz_n, hz_r (.ifCond .eq 13) 3, hz_n, hz_n, hz_r (.iload_n 2) 1, hz_r (.ifCond .lt 9) 3, hz_n, hz_n, hz_r (.iload_n 2) 1],
  [hz_r (.bipush 99) 2, hz_n, hz_r (.if_icmp .le 11) 3, hz_n, hz_n, hz_m (.new 141) 3 [] [false, false, false], hz_n, hz_n, hz_r (.dup) 1, hz_r (.invokespecial 143) 3, hz_n, hz_n, hz_r (.athrow) 1, hz_r (.aload_n 0) 1, hz_m (.getfield 84) 3 [11, 10] [], hz_n],
  [hz_n, hz_r (.iload_n 1) 1, hz_r (.iload_n 2) 1, hz_m (.invokevirtual 287) 3 [26, 3, 1, 0] [], hz_n, hz_n, hz_r (.ireturn) 1]]
/-- HeavierServes.hold(I)I -/
def hs_k137 : hs_K := [
  [hz_r (.iload_n 1) 1, hz_r (.ifCond .lt 9) 3, hz_n, hz_n, hz_r (.iload_n 1) 1, hz_r (.bipush 60) 2, hz_n, hz_r (.if_icmp .le 5) 3, hz_n, hz_n, hz_m (.iconst (-1)) 1 [] [false, false], hz_r (.ireturn) 1, hz_r (.aload_n 0) 1, hz_m (.getfield 47) 3 [11, 5] [], hz_n, hz_n],
  [hz_m (.getfield 209) 3 [6, 1] [], hz_n, hz_n, hz_r (.iconst (-1)) 1, hz_r (.if_icmp .ne 8) 3, hz_n, hz_n, hz_m (.bipush (-3)) 2 [] [false, false], hz_n, hz_r (.goto 18) 3, hz_n, hz_n, hz_r (.aload_n 0) 1, hz_m (.getfield 91) 3 [11, 11] [], hz_n, hz_n],
  [hz_r (.aload_n 0) 1, hz_m (.getfield 47) 3 [11, 5] [], hz_n, hz_n, hz_m (.getfield 209) 3 [6, 1] [], hz_n, hz_n, hz_r (.iload_n 1) 1, hz_m (.invokevirtual 290) 3 [87, 3, 1, 9] [], hz_n, hz_n, hz_m (.ireturn) 1 [] [false, false]]]
/-- HeavierServes.bribe(II)I -/
def hs_k138 : hs_K := [
  [hz_r (.aload_n 0) 1, hz_r (.iload_n 1) 1, hz_m (.invokevirtual 243) 3 [158, 2, 1, 11] [], hz_n, hz_n, hz_r (.ifCond .eq 14) 3, hz_n, hz_n, hz_r (.iload_n 2) 1, hz_r (.iconst 1) 1, hz_r (.if_icmp .lt 9) 3, hz_n, hz_n, hz_r (.iload_n 2) 1, hz_r (.bipush 60) 2, hz_n],
  [hz_r (.if_icmp .le 7) 3, hz_n, hz_n, hz_m (.iconst (-1)) 1 [] [false, false, false], hz_r (.goto 12) 3, hz_n, hz_n, hz_r (.aload_n 0) 1, hz_m (.getfield 91) 3 [11, 11] [], hz_n, hz_n, hz_r (.iload_n 1) 1, hz_r (.iload_n 2) 1, hz_m (.invokevirtual 293) 3 [88, 3, 1, 9] [], hz_n, hz_n],
  [hz_m (.ireturn) 1 [] [false, false, false]]]
/-- HeavierServes.starve(II)I -/
def hs_k139 : hs_K := [
  [hz_r (.aload_n 0) 1, hz_r (.iload_n 1) 1, hz_m (.invokevirtual 243) 3 [158, 2, 1, 11] [], hz_n, hz_n, hz_r (.ifCond .eq 13) 3, hz_n, hz_n, hz_r (.iload_n 2) 1, hz_r (.ifCond .lt 9) 3, hz_n, hz_n, hz_r (.iload_n 2) 1, hz_r (.bipush 60) 2, hz_n, hz_r (.if_icmp .le 7) 3],
  [hz_n, hz_n, hz_m (.iconst (-1)) 1 [] [false, false, false], hz_r (.goto 12) 3, hz_n, hz_n, hz_r (.aload_n 0) 1, hz_m (.getfield 91) 3 [11, 11] [], hz_n, hz_n, hz_r (.iload_n 1) 1, hz_r (.iload_n 2) 1, hz_m (.invokevirtual 296) 3 [89, 3, 1, 9] [], hz_n, hz_n, hz_m (.ireturn) 1 [] [false, false, false]]]
/-- HeavierServes.cheapest()I -/
def hs_k140 : hs_K := [
  [hz_r (.aload_n 0) 1, hz_m (.getfield 91) 3 [11, 11] [], hz_n, hz_n, hz_m (.invokevirtual 299) 3 [90, 1, 1, 9] [], hz_n, hz_n, hz_r (.ireturn) 1]]
/-- HeavierServes.weighed(II)I -/
def hs_k141 : hs_K := [
  [hz_r (.aload_n 0) 1, hz_m (.getfield 26) 3 [11, 2] [], hz_n, hz_n, hz_r (.iload_n 1) 1, hz_m (.invokevirtual 130) 3 [68, 2, 1, 8] [], hz_n, hz_n, hz_r (.ifCond .eq 14) 3, hz_n, hz_n, hz_r (.iload_n 2) 1, hz_r (.ifCond .lt 10) 3, hz_n, hz_n, hz_r (.iload_n 2) 1],
  [hz_r (.sipush 1010) 3, hz_n, hz_n, hz_r (.if_icmp .le 7) 3, hz_n, hz_n, hz_m (.iconst (-1)) 1 [] [false, false, false], hz_r (.goto 12) 3, hz_n, hz_n, hz_r (.aload_n 0) 1, hz_m (.getfield 63) 3 [11, 7] [], hz_n, hz_n, hz_r (.iload_n 1) 1, hz_r (.iload_n 2) 1],
  [hz_m (.invokevirtual 302) 3 [37, 3, 1, 2] [], hz_n, hz_n, hz_m (.ireturn) 1 [] [false, false, false]]]
/-- HeavierServes.forget()I -/
def hs_k142 : hs_K := [
  [hz_r (.aload_n 0) 1, hz_m (.getfield 63) 3 [11, 7] [], hz_n, hz_n, hz_m (.getfield 304) 3 [2, 2] [], hz_n, hz_n, hz_r (.ifCond .ne 5) 3, hz_n, hz_n, hz_m (.iconst (-1)) 1 [] [false], hz_r (.ireturn) 1, hz_r (.aload_n 0) 1, hz_m (.getfield 63) 3 [11, 7] [], hz_n, hz_n],
  [hz_r (.dup) 1, hz_m (.getfield 304) 3 [2, 2] [], hz_n, hz_n, hz_r (.iconst 1) 1, hz_r (.isub) 1, hz_m (.putfield 304) 3 [2, 2] [], hz_n, hz_n, hz_r (.aload_n 0) 1, hz_m (.getfield 63) 3 [11, 7] [], hz_n, hz_n, hz_m (.getfield 304) 3 [2, 2] [], hz_n, hz_n],
  [hz_r (.ireturn) 1]]
/-- HeavierServes.grains()I -/
def hs_k143 : hs_K := [
  [hz_r (.aload_n 0) 1, hz_m (.getfield 40) 3 [11, 4] [], hz_n, hz_n, hz_r (.aload_n 0) 1, hz_m (.getfield 63) 3 [11, 7] [], hz_n, hz_n, hz_r (.aload_n 0) 1, hz_m (.getfield 26) 3 [11, 2] [], hz_n, hz_n, hz_m (.getfield 110) 3 [8, 9] [], hz_n, hz_n, hz_m (.invokevirtual 307) 3 [52, 3, 1, 5] []],
  [hz_n, hz_n, hz_r (.ireturn) 1]]
/-- HeavierServes.span(I)I -/
def hs_k144 : hs_K := [
  [hz_m (.aload_n 0) 1 [] [true, true, false], hz_m (.getfield 26) 3 [11, 2] [], hz_n, hz_n, hz_r (.iload_n 1) 1, hz_m (.invokevirtual 130) 3 [68, 2, 1, 8] [], hz_n, hz_n, hz_r (.ifCond .ne 5) 3, hz_n, hz_n, hz_m (.iconst (-1)) 1 [] [false, false, false], hz_r (.ireturn) 1, hz_m (.aload_n 0) 1 [] [true, true, false], hz_m (.getfield 40) 3 [11, 4] [], hz_n],
  [hz_n, hz_r (.aload_n 0) 1, hz_m (.getfield 63) 3 [11, 7] [], hz_n, hz_n, hz_r (.iload_n 1) 1, hz_r (.aload_n 0) 1, hz_m (.getfield 40) 3 [11, 4] [], hz_n, hz_n, hz_m (.getfield 174) 3 [5, 0] [], hz_n, hz_n, hz_m (.invokevirtual 311) 3 [53, 4, 1, 5] [], hz_n, hz_n],
  [hz_r (.istore_n 2) 1, hz_r (.aload_n 0) 1, hz_m (.getfield 19) 3 [11, 1] [], hz_n, hz_n, hz_r (.iload_n 2) 1, hz_r (.aload_n 0) 1, hz_m (.getfield 40) 3 [11, 4] [], hz_n, hz_n, hz_m (.getfield 315) 3 [5, 2] [], hz_n, hz_n, hz_r (.aload_n 0) 1, hz_m (.getfield 40) 3 [11, 4] [], hz_n],
  [hz_n, hz_m (.getfield 318) 3 [5, 3] [], hz_n, hz_n, hz_m (.invokevirtual 321) 3 [47, 4, 0, 4] [], hz_n, hz_n, hz_r (.iload_n 2) 1, hz_r (.ireturn) 1]]
/-- HeavierServes.offs()I -/
def hs_k145 : hs_K := [
  [hz_m (.iconst 0) 1 [] [true, false, false, false, false], hz_r (.istore_n 1) 1, hz_r (.iconst 0) 1, hz_r (.istore_n 2) 1, hz_r (.iconst 0) 1, hz_r (.istore_n 3) 1, hz_r (.bipush (-9)) 2, hz_n, hz_r (.istore 4) 2, hz_n, hz_r (.iload 4) 2, hz_n, hz_r (.bipush 9) 2, hz_n, hz_r (.if_icmp .gt 49) 3, hz_n],
  [hz_n, hz_r (.aload_n 0) 1, hz_m (.getfield 40) 3 [11, 4] [], hz_n, hz_n, hz_r (.aload_n 0) 1, hz_m (.getfield 63) 3 [11, 7] [], hz_n, hz_n, hz_r (.aload_n 0) 1, hz_m (.getfield 47) 3 [11, 5] [], hz_n, hz_n, hz_m (.getfield 144) 3 [6, 7] [], hz_n, hz_n],
  [hz_r (.iload 4) 2, hz_n, hz_m (.invokevirtual 325) 3 [51, 4, 1, 5] [], hz_n, hz_n, hz_r (.ifCond .ne 20) 3, hz_n, hz_n, hz_m (.iload_n 1) 1 [] [true, true, true, false, true], hz_r (.ifCond .ne 8) 3, hz_n, hz_n, hz_m (.iload 4) 2 [] [true, true, false, false, true], hz_n, hz_r (.goto 4) 3, hz_n],
  [hz_n, hz_m (.iload_n 2) 1 [] [true, true, true, false, true], hz_m (.istore_n 2) 1 [] [true, true, false, false, true], hz_r (.iload 4) 2, hz_n, hz_r (.istore_n 3) 1, hz_r (.iinc 1 1) 3, hz_n, hz_n, hz_r (.iinc 4 1) 3, hz_n, hz_n, hz_r (.goto (-50)) 3, hz_n, hz_n, hz_m (.aload_n 0) 1 [] [true, true, true, true, false]],
  [hz_m (.getfield 19) 3 [11, 1] [], hz_n, hz_n, hz_r (.iload_n 1) 1, hz_r (.iload_n 2) 1, hz_r (.iload_n 3) 1, hz_m (.invokevirtual 321) 3 [47, 4, 0, 4] [], hz_n, hz_n, hz_r (.iload_n 1) 1, hz_r (.ireturn) 1]]
/-- HeavierServes.cheats()I -/
def hs_k146 : hs_K := [
  [hz_m (.bipush 9) 2 [] [true, false, false, false, false, false], hz_n, hz_r (.istore_n 1) 1, hz_r (.iconst 0) 1, hz_r (.istore_n 2) 1, hz_r (.iconst 0) 1, hz_r (.istore_n 3) 1, hz_r (.bipush (-9)) 2, hz_n, hz_r (.istore 4) 2, hz_n, hz_m (.iload 4) 2 [] [true, true, true, true, true, false], hz_n, hz_r (.bipush 9) 2, hz_n, hz_r (.if_icmp .gt 52) 3],
  [hz_n, hz_n, hz_m (.aload_n 0) 1 [] [true, true, true, true, true, false], hz_m (.getfield 40) 3 [11, 4] [], hz_n, hz_n, hz_r (.aload_n 0) 1, hz_m (.getfield 63) 3 [11, 7] [], hz_n, hz_n, hz_r (.aload_n 0) 1, hz_m (.getfield 47) 3 [11, 5] [], hz_n, hz_n, hz_m (.getfield 144) 3 [6, 7] [], hz_n],
  [hz_n, hz_r (.iload 4) 2, hz_n, hz_m (.invokevirtual 325) 3 [51, 4, 1, 5] [], hz_n, hz_n, hz_r (.istore 5) 2, hz_n, hz_r (.iload 5) 2, hz_n, hz_m (.invokestatic 329) 3 [0, 1, 1] [], hz_n, hz_n, hz_r (.iload_n 1) 1, hz_r (.if_icmp .ge 15) 3, hz_n],
  [hz_n, hz_m (.iload 5) 2 [] [true, false, false, false, true, true], hz_n, hz_m (.invokestatic 329) 3 [0, 1, 1] [], hz_n, hz_n, hz_r (.istore_n 1) 1, hz_r (.iload 5) 2, hz_n, hz_r (.istore_n 2) 1, hz_r (.iload 4) 2, hz_n, hz_r (.istore_n 3) 1, hz_m (.iinc 4 1) 3 [] [true, true, true, true, true, false], hz_n, hz_n],
  [hz_r (.goto (-53)) 3, hz_n, hz_n, hz_m (.aload_n 0) 1 [] [true, true, true, true, false, false], hz_m (.getfield 19) 3 [11, 1] [], hz_n, hz_n, hz_r (.iload_n 2) 1, hz_r (.i2l) 1, hz_m (.invokevirtual 197) 3 [45, 2, 0, 4] [], hz_n, hz_n, hz_r (.aload_n 0) 1, hz_m (.getfield 19) 3 [11, 1] [], hz_n, hz_n],
  [hz_r (.iload_n 3) 1, hz_r (.i2l) 1, hz_m (.invokevirtual 206) 3 [46, 2, 0, 4] [], hz_n, hz_n, hz_r (.iload_n 1) 1, hz_r (.ireturn) 1]]
/-- HeavierServes.told(II)I -/
def hs_k147 : hs_K := [
  [hz_r (.aload_n 0) 1, hz_m (.getfield 26) 3 [11, 2] [], hz_n, hz_n, hz_r (.iload_n 1) 1, hz_m (.invokevirtual 130) 3 [68, 2, 1, 8] [], hz_n, hz_n, hz_r (.ifCond .eq 14) 3, hz_n, hz_n, hz_r (.iload_n 2) 1, hz_r (.iconst 1) 1, hz_r (.if_icmp .lt 9) 3, hz_n, hz_n],
  [hz_r (.iload_n 2) 1, hz_r (.bipush 60) 2, hz_n, hz_r (.if_icmp .le 7) 3, hz_n, hz_n, hz_m (.iconst (-1)) 1 [] [false, false, false], hz_r (.goto 12) 3, hz_n, hz_n, hz_r (.aload_n 0) 1, hz_m (.getfield 67) 3 [11, 8] [], hz_n, hz_n, hz_r (.iload_n 1) 1, hz_r (.iload_n 2) 1],
  [hz_m (.invokevirtual 302) 3 [37, 3, 1, 2] [], hz_n, hz_n, hz_m (.ireturn) 1 [] [false, false, false]]]
/-- HeavierServes.wipe()I -/
def hs_k148 : hs_K := [
  [hz_m (.aload_n 0) 1 [] [true, false], hz_m (.getfield 67) 3 [11, 8] [], hz_n, hz_n, hz_m (.getfield 304) 3 [2, 2] [], hz_n, hz_n, hz_r (.istore_n 1) 1, hz_r (.aload_n 0) 1, hz_m (.getfield 67) 3 [11, 8] [], hz_n, hz_n, hz_r (.iconst 0) 1, hz_m (.putfield 304) 3 [2, 2] [], hz_n, hz_n],
  [hz_r (.iload_n 1) 1, hz_r (.ireturn) 1]]
/-- HeavierServes.explains(I)I -/
def hs_k149 : hs_K := [
  [hz_r (.aload_n 0) 1, hz_r (.iload_n 1) 1, hz_m (.invokevirtual 243) 3 [158, 2, 1, 11] [], hz_n, hz_n, hz_r (.ifCond .eq 18) 3, hz_n, hz_n, hz_r (.aload_n 0) 1, hz_m (.getfield 91) 3 [11, 11] [], hz_n, hz_n, hz_r (.aload_n 0) 1, hz_m (.getfield 67) 3 [11, 8] [], hz_n, hz_n],
  [hz_r (.iload_n 1) 1, hz_m (.invokevirtual 334) 3 [94, 3, 1, 9] [], hz_n, hz_n, hz_r (.goto 4) 3, hz_n, hz_n, hz_m (.iconst (-1)) 1 [] [false, false], hz_m (.ireturn) 1 [] [false, false]]]
/-- HeavierServes.absent()I -/
def hs_k150 : hs_K := [
  [hz_r (.aload_n 0) 1, hz_m (.getfield 91) 3 [11, 11] [], hz_n, hz_n, hz_r (.aload_n 0) 1, hz_m (.getfield 67) 3 [11, 8] [], hz_n, hz_n, hz_m (.invokevirtual 337) 3 [95, 2, 1, 9] [], hz_n, hz_n, hz_r (.ireturn) 1]]
/-- HeavierServes.twin(I)I -/
def hs_k151 : hs_K := [
  [hz_m (.aload_n 0) 1 [] [true, true, false], hz_r (.iload_n 1) 1, hz_m (.invokevirtual 243) 3 [158, 2, 1, 11] [], hz_n, hz_n, hz_r (.ifCond .eq 15) 3, hz_n, hz_n, hz_m (.aload_n 0) 1 [] [true, true, false], hz_m (.getfield 26) 3 [11, 2] [], hz_n, hz_n, hz_m (.getfield 110) 3 [8, 9] [], hz_n, hz_n, hz_r (.bipush 8) 2],
  [hz_n, hz_r (.if_icmp .lt 5) 3, hz_n, hz_n, hz_m (.iconst (-1)) 1 [] [false, false, false], hz_r (.ireturn) 1, hz_m (.aload_n 0) 1 [] [true, true, false], hz_m (.getfield 26) 3 [11, 2] [], hz_n, hz_n, hz_m (.getfield 110) 3 [8, 9] [], hz_n, hz_n, hz_r (.istore_n 2) 1, hz_r (.aload_n 0) 1, hz_m (.getfield 26) 3 [11, 2] []],
  [hz_n, hz_n, hz_r (.iload_n 1) 1, hz_r (.iload_n 2) 1, hz_m (.invokevirtual 341) 3 [76, 3, 0, 8] [], hz_n, hz_n, hz_r (.aload_n 0) 1, hz_m (.getfield 47) 3 [11, 5] [], hz_n, hz_n, hz_r (.iload_n 2) 1, hz_r (.aload_n 0) 1, hz_m (.getfield 47) 3 [11, 5] [], hz_n, hz_n],
  [hz_m (.getfield 144) 3 [6, 7] [], hz_n, hz_n, hz_r (.iload_n 1) 1, hz_r (.iaload) 1, hz_m (.invokevirtual 117) 3 [57, 3, 0, 6] [], hz_n, hz_n, hz_r (.aload_n 0) 1, hz_m (.getfield 26) 3 [11, 2] [], hz_n, hz_n, hz_m (.invokevirtual 121) 3 [69, 1, 0, 8] [], hz_n, hz_n, hz_r (.aload_n 0) 1],
  [hz_m (.getfield 54) 3 [11, 6] [], hz_n, hz_n, hz_m (.invokevirtual 124) 3 [42, 1, 0, 3] [], hz_n, hz_n, hz_r (.iload_n 2) 1, hz_r (.ireturn) 1]]
/-- HeavierServes.odds(II)I -/
def hs_k152 : hs_K := [
  [hz_r (.aload_n 0) 1, hz_m (.getfield 26) 3 [11, 2] [], hz_n, hz_n, hz_r (.iload_n 1) 1, hz_m (.invokevirtual 130) 3 [68, 2, 1, 8] [], hz_n, hz_n, hz_r (.ifCond .eq 12) 3, hz_n, hz_n, hz_r (.iload_n 2) 1, hz_r (.ifCond .lt 8) 3, hz_n, hz_n, hz_r (.iload_n 2) 1],
  [hz_r (.iconst 2) 1, hz_r (.if_icmp .le 5) 3, hz_n, hz_n, hz_m (.iconst (-1)) 1 [] [false, false, false], hz_r (.ireturn) 1, hz_r (.aload_n 0) 1, hz_m (.getfield 84) 3 [11, 10] [], hz_n, hz_n, hz_r (.iload_n 1) 1, hz_r (.iload_n 2) 1, hz_m (.invokevirtual 344) 3 [27, 3, 0, 0] [], hz_n, hz_n, hz_r (.iconst 0) 1],
  [hz_r (.ireturn) 1]]
/-- HeavierServes.likely()I -/
def hs_k153 : hs_K := [
  [hz_r (.aload_n 0) 1, hz_m (.getfield 84) 3 [11, 10] [], hz_n, hz_n, hz_m (.invokevirtual 347) 3 [29, 1, 1, 0] [], hz_n, hz_n, hz_r (.ireturn) 1]]
/-- HeavierServes.keep(I)Z -/
def hs_k154 : hs_K := [
  [hz_r (.aload_n 0) 1, hz_m (.getfield 54) 3 [11, 6] [], hz_n, hz_n, hz_r (.iload_n 1) 1, hz_r (.aload_n 0) 1, hz_m (.getfield 47) 3 [11, 5] [], hz_n, hz_n, hz_r (.aload_n 0) 1, hz_m (.getfield 26) 3 [11, 2] [], hz_n, hz_n, hz_m (.getfield 110) 3 [8, 9] [], hz_n, hz_n],
  [hz_m (.invokevirtual 350) 3 [43, 4, 1, 3] [], hz_n, hz_n, hz_r (.ireturn) 1]]
/-- HeavierServes.again(I)Z -/
def hs_k155 : hs_K := [
  [hz_r (.aload_n 0) 1, hz_m (.getfield 54) 3 [11, 6] [], hz_n, hz_n, hz_r (.iload_n 1) 1, hz_r (.aload_n 0) 1, hz_m (.getfield 47) 3 [11, 5] [], hz_n, hz_n, hz_r (.aload_n 0) 1, hz_m (.getfield 26) 3 [11, 2] [], hz_n, hz_n, hz_m (.getfield 110) 3 [8, 9] [], hz_n, hz_n],
  [hz_m (.invokevirtual 354) 3 [44, 4, 1, 3] [], hz_n, hz_n, hz_r (.ireturn) 1]]
/-- HeavierServes.count(I)I -/
def hs_k156 : hs_K := [
  [hz_r (.iload_n 1) 1, hz_r (.tableswitch 183 0 13 #[71, 79, 87, 95, 103, 111, 119, 127, 135, 143, 151, 159, 167, 175]) 71, hz_n, hz_n, hz_n, hz_n, hz_n, hz_n, hz_n, hz_n, hz_n, hz_n, hz_n, hz_n, hz_n, hz_n],
  [hz_n, hz_n, hz_n, hz_n, hz_n, hz_n, hz_n, hz_n, hz_n, hz_n, hz_n, hz_n, hz_n, hz_n, hz_n, hz_n],
  [hz_n, hz_n, hz_n, hz_n, hz_n, hz_n, hz_n, hz_n, hz_n, hz_n, hz_n, hz_n, hz_n, hz_n, hz_n, hz_n],
  [hz_n, hz_n, hz_n, hz_n, hz_n, hz_n, hz_n, hz_n, hz_n, hz_n, hz_n, hz_n, hz_n, hz_n, hz_n, hz_n],
  [hz_n, hz_n, hz_n, hz_n, hz_n, hz_n, hz_n, hz_n, hz_m (.aload_n 0) 1 [] [true, false], hz_m (.getfield 26) 3 [11, 2] [], hz_n, hz_n, hz_m (.getfield 110) 3 [8, 9] [], hz_n, hz_n, hz_r (.ireturn) 1],
  [hz_m (.aload_n 0) 1 [] [true, false], hz_m (.getfield 47) 3 [11, 5] [], hz_n, hz_n, hz_m (.getfield 256) 3 [6, 0] [], hz_n, hz_n, hz_r (.ireturn) 1, hz_m (.aload_n 0) 1 [] [true, false], hz_m (.getfield 47) 3 [11, 5] [], hz_n, hz_n, hz_m (.getfield 209) 3 [6, 1] [], hz_n, hz_n, hz_r (.ireturn) 1],
  [hz_m (.aload_n 0) 1 [] [true, false], hz_m (.getfield 47) 3 [11, 5] [], hz_n, hz_n, hz_m (.getfield 357) 3 [6, 2] [], hz_n, hz_n, hz_r (.ireturn) 1, hz_m (.aload_n 0) 1 [] [true, false], hz_m (.getfield 47) 3 [11, 5] [], hz_n, hz_n, hz_m (.getfield 221) 3 [6, 6] [], hz_n, hz_n, hz_r (.ireturn) 1],
  [hz_m (.aload_n 0) 1 [] [true, false], hz_m (.getfield 47) 3 [11, 5] [], hz_n, hz_n, hz_m (.getfield 233) 3 [6, 4] [], hz_n, hz_n, hz_r (.ireturn) 1, hz_m (.aload_n 0) 1 [] [true, false], hz_m (.getfield 47) 3 [11, 5] [], hz_n, hz_n, hz_m (.getfield 360) 3 [6, 3] [], hz_n, hz_n, hz_r (.ireturn) 1],
  [hz_m (.aload_n 0) 1 [] [true, false], hz_m (.getfield 54) 3 [11, 6] [], hz_n, hz_n, hz_m (.getfield 253) 3 [3, 4] [], hz_n, hz_n, hz_r (.ireturn) 1, hz_m (.aload_n 0) 1 [] [true, false], hz_m (.getfield 63) 3 [11, 7] [], hz_n, hz_n, hz_m (.getfield 304) 3 [2, 2] [], hz_n, hz_n, hz_r (.ireturn) 1],
  [hz_m (.aload_n 0) 1 [] [true, false], hz_m (.getfield 67) 3 [11, 8] [], hz_n, hz_n, hz_m (.getfield 304) 3 [2, 2] [], hz_n, hz_n, hz_r (.ireturn) 1, hz_m (.aload_n 0) 1 [] [true, false], hz_m (.getfield 19) 3 [11, 1] [], hz_n, hz_n, hz_m (.getfield 363) 3 [4, 1] [], hz_n, hz_n, hz_r (.ireturn) 1],
  [hz_m (.aload_n 0) 1 [] [true, false], hz_m (.getfield 10) 3 [11, 0] [], hz_n, hz_n, hz_m (.getfield 99) 3 [7, 1] [], hz_n, hz_n, hz_r (.ireturn) 1, hz_m (.aload_n 0) 1 [] [true, false], hz_m (.getfield 40) 3 [11, 4] [], hz_n, hz_n, hz_m (.getfield 174) 3 [5, 0] [], hz_n, hz_n, hz_r (.ireturn) 1],
  [hz_m (.aload_n 0) 1 [] [true, false], hz_m (.getfield 40) 3 [11, 4] [], hz_n, hz_n, hz_m (.getfield 177) 3 [5, 1] [], hz_n, hz_n, hz_r (.ireturn) 1, hz_m (.bipush (-100)) 2 [] [false, false], hz_n, hz_r (.ireturn) 1]]
/-- HeavierServes.row(I)J -/
def hs_k157 : hs_K := [
  [hz_r (.iload_n 1) 1, hz_r (.ifCond .lt 26) 3, hz_n, hz_n, hz_r (.iload_n 1) 1, hz_r (.aload_n 0) 1, hz_m (.getfield 19) 3 [11, 1] [], hz_n, hz_n, hz_m (.getfield 363) 3 [4, 1] [], hz_n, hz_n, hz_r (.if_icmp .ge 15) 3, hz_n, hz_n, hz_r (.iload_n 1) 1],
  [hz_r (.aload_n 0) 1, hz_m (.getfield 19) 3 [11, 1] [], hz_n, hz_n, hz_m (.getfield 364) 3 [4, 0] [], hz_n, hz_n, hz_r (.arraylength) 1, hz_r (.if_icmp .lt 11) 3, hz_n, hz_n, hz_m (.new 141) 3 [] [false, false], hz_n, hz_n, hz_r (.dup) 1, hz_r (.invokespecial 143) 3],
  [hz_n, hz_n, hz_r (.athrow) 1, hz_r (.aload_n 0) 1, hz_m (.getfield 19) 3 [11, 1] [], hz_n, hz_n, hz_m (.getfield 364) 3 [4, 0] [], hz_n, hz_n, hz_r (.iload_n 1) 1, hz_r (.laload) 1, hz_r (.lreturn) 1]]
/-- HeavierServes.isThere(I)Z -/
def hs_k158 : hs_K := [
  [hz_r (.aload_n 0) 1, hz_m (.getfield 26) 3 [11, 2] [], hz_n, hz_n, hz_r (.iload_n 1) 1, hz_m (.invokevirtual 130) 3 [68, 2, 1, 8] [], hz_n, hz_n, hz_r (.ifCond .eq 18) 3, hz_n, hz_n, hz_r (.aload_n 0) 1, hz_m (.getfield 47) 3 [11, 5] [], hz_n, hz_n, hz_r (.iload_n 1) 1],
  [hz_m (.invokevirtual 153) 3 [58, 2, 1, 6] [], hz_n, hz_n, hz_r (.ifCond .eq 7) 3, hz_n, hz_n, hz_m (.iconst 1) 1 [] [false, false], hz_r (.goto 4) 3, hz_n, hz_n, hz_m (.iconst 0) 1 [] [false, false], hz_m (.ireturn) 1 [] [false, false]]]
/-- HeavierServes.exchange([III)I -/
def hs_k159 : hs_K := [
  [hz_m (.iload_n 1) 1 [] [true, true, true, false], hz_r (.ifCond .lt 9) 3, hz_n, hz_n, hz_m (.iload_n 1) 1 [] [true, true, true, false], hz_r (.aload_n 0) 1, hz_r (.arraylength) 1, hz_r (.if_icmp .lt 5) 3, hz_n, hz_n, hz_m (.iconst (-1)) 1 [] [false, false, false, false], hz_r (.ireturn) 1, hz_m (.aload_n 0) 1 [] [true, true, true, false], hz_r (.iload_n 1) 1, hz_r (.iaload) 1, hz_r (.istore_n 3) 1],
  [hz_r (.aload_n 0) 1, hz_r (.iload_n 1) 1, hz_r (.iload_n 2) 1, hz_r (.iastore) 1, hz_r (.iload_n 3) 1, hz_r (.ireturn) 1]]
/-- HeavierServes.inBounds(I)I -/
def hs_k160 : hs_K := [
  [hz_r (.iload_n 0) 1, hz_r (.iconst 1) 1, hz_r (.if_icmp .ge 5) 3, hz_n, hz_n, hz_m (.iconst 1) 1 [] [false], hz_r (.ireturn) 1, hz_r (.iload_n 0) 1, hz_r (.sipush 999) 3, hz_n, hz_n, hz_r (.if_icmp .le 9) 3, hz_n, hz_n, hz_m (.sipush 999) 3 [] [false], hz_n],
  [hz_n, hz_r (.goto 4) 3, hz_n, hz_n, hz_r (.iload_n 0) 1, hz_m (.ireturn) 1 [] [false]]]
/-- HeavierServes.asKind(II)I -/
def hs_k161 : hs_K := [
  [hz_r (.iload_n 0) 1, hz_r (.ifCond .ne 6) 3, hz_n, hz_n, hz_m (.iload_n 1) 1 [] [false, true], hz_r (.i2b) 1, hz_r (.ireturn) 1, hz_r (.iload_n 0) 1, hz_r (.iconst 1) 1, hz_r (.if_icmp .ne 8) 3, hz_n, hz_n, hz_m (.iload_n 1) 1 [] [false, true], hz_r (.i2s) 1, hz_r (.goto 4) 3, hz_n],
  [hz_n, hz_m (.iload_n 1) 1 [] [false, true], hz_m (.ireturn) 1 [] [false, false]]]
/-- HeavierServes.eat(III)I -/
def hs_k162 : hs_K := [
  [hz_r (.aload_n 0) 1, hz_r (.iload_n 1) 1, hz_m (.invokevirtual 243) 3 [158, 2, 1, 11] [], hz_n, hz_n, hz_r (.ifCond .eq 14) 3, hz_n, hz_n, hz_r (.iload_n 2) 1, hz_r (.iconst 1) 1, hz_r (.if_icmp .lt 9) 3, hz_n, hz_n, hz_r (.iload_n 2) 1, hz_r (.bipush 99) 2, hz_n],
  [hz_r (.if_icmp .le 5) 3, hz_n, hz_n, hz_m (.iconst (-1)) 1 [] [false, false, false, false], hz_r (.ireturn) 1, hz_r (.aload_n 0) 1, hz_m (.getfield 54) 3 [11, 6] [], hz_n, hz_n, hz_r (.aload_n 0) 1, hz_m (.getfield 47) 3 [11, 5] [], hz_n, hz_n, hz_m (.invokevirtual 190) 3 [40, 2, 0, 3] [], hz_n, hz_n],
  [hz_r (.aload_n 0) 1, hz_m (.getfield 47) 3 [11, 5] [], hz_n, hz_n, hz_r (.iload_n 1) 1, hz_r (.aload_n 0) 1, hz_m (.getfield 47) 3 [11, 5] [], hz_n, hz_n, hz_m (.getfield 144) 3 [6, 7] [], hz_n, hz_n, hz_r (.iload_n 1) 1, hz_r (.iaload) 1, hz_r (.iload_n 3) 1, hz_r (.iload_n 2) 1],
  [hz_r (.imul) 1, hz_r (.iadd) 1, hz_m (.invokevirtual 183) 3 [59, 3, 0, 6] [], hz_n, hz_n, hz_r (.aload_n 0) 1, hz_m (.getfield 47) 3 [11, 5] [], hz_n, hz_n, hz_m (.getfield 144) 3 [6, 7] [], hz_n, hz_n, hz_r (.iload_n 1) 1, hz_r (.iaload) 1, hz_r (.ireturn) 1]]
/-- HeavierServes.passWeek(II)I -/
def hs_k163 : hs_K := [
  [hz_m (.aload_n 0) 1 [] [true, true, true, false, false], hz_m (.getfield 47) 3 [11, 5] [], hz_n, hz_n, hz_m (.getfield 209) 3 [6, 1] [], hz_n, hz_n, hz_r (.istore_n 3) 1, hz_r (.aload_n 0) 1, hz_m (.getfield 47) 3 [11, 5] [], hz_n, hz_n, hz_m (.getfield 368) 3 [6, 5] [], hz_n, hz_n, hz_r (.istore 4) 2],
  [hz_n, hz_r (.aload_n 0) 1, hz_m (.getfield 75) 3 [11, 9] [], hz_n, hz_n, hz_r (.aload_n 0) 1, hz_m (.getfield 47) 3 [11, 5] [], hz_n, hz_n, hz_r (.iload_n 1) 1, hz_r (.iload_n 2) 1, hz_m (.invokevirtual 371) 3 [30, 4, 0, 1] [], hz_n, hz_n, hz_r (.aload_n 0) 1, hz_m (.getfield 47) 3 [11, 5] []],
  [hz_n, hz_n, hz_m (.getfield 209) 3 [6, 1] [], hz_n, hz_n, hz_r (.iload_n 3) 1, hz_r (.if_icmp .ne 7) 3, hz_n, hz_n, hz_m (.iconst (-1)) 1 [] [false, false, false, false, false], hz_r (.goto 5) 3, hz_n, hz_n, hz_m (.iload 4) 2 [] [false, false, false, false, true], hz_n, hz_m (.ireturn) 1 [] [false, false, false, false, false]]]
/-- HeavierServes.yearFault()I -/
def hs_k164 : hs_K := [
  [hz_m (.iconst 0) 1 [] [true, false, false, false], hz_r (.istore_n 1) 1, hz_r (.iconst 0) 1, hz_r (.istore_n 2) 1, hz_m (.iload_n 2) 1 [] [true, true, true, false], hz_r (.aload_n 0) 1, hz_m (.getfield 10) 3 [11, 0] [], hz_n, hz_n, hz_m (.getfield 375) 3 [7, 2] [], hz_n, hz_n, hz_r (.if_icmp .ge 53) 3, hz_n, hz_n, hz_m (.aload_n 0) 1 [] [true, true, true, false]],
  [hz_m (.getfield 10) 3 [11, 0] [], hz_n, hz_n, hz_r (.iload_n 2) 1, hz_m (.invokevirtual 378) 3 [66, 2, 1, 7] [], hz_n, hz_n, hz_r (.istore_n 3) 1, hz_r (.iload_n 3) 1, hz_r (.bipush 59) 2, hz_n, hz_r (.if_icmp .ne 8) 3, hz_n, hz_n, hz_m (.iconst 0) 1 [] [true, false, true, false], hz_r (.istore_n 1) 1],
  [hz_r (.goto 27) 3, hz_n, hz_n, hz_r (.iload_n 3) 1, hz_r (.bipush 97) 2, hz_n, hz_r (.if_icmp .lt 19) 3, hz_n, hz_n, hz_r (.iload_n 3) 1, hz_r (.bipush 104) 2, hz_n, hz_r (.if_icmp .gt 13) 3, hz_n, hz_n, hz_r (.iload_n 3) 1],
  [hz_r (.iload_n 1) 1, hz_r (.if_icmp .le 8) 3, hz_n, hz_n, hz_m (.iload_n 3) 1 [] [true, false, true, true], hz_r (.istore_n 1) 1, hz_r (.goto 5) 3, hz_n, hz_n, hz_m (.iload_n 2) 1 [] [false, false, true, false], hz_r (.ireturn) 1, hz_m (.iinc 2 1) 3 [] [true, true, true, false], hz_n, hz_n, hz_r (.goto (-58)) 3, hz_n],
  [hz_n, hz_m (.aload_n 0) 1 [] [true, false, false, false], hz_m (.getfield 10) 3 [11, 0] [], hz_n, hz_n, hz_m (.getfield 375) 3 [7, 2] [], hz_n, hz_n, hz_r (.aload_n 0) 1, hz_m (.getfield 10) 3 [11, 0] [], hz_n, hz_n, hz_m (.getfield 99) 3 [7, 1] [], hz_n, hz_n, hz_r (.if_icmp .ge 13) 3],
  [hz_n, hz_n, hz_m (.aload_n 0) 1 [] [true, false, false, false], hz_m (.getfield 10) 3 [11, 0] [], hz_n, hz_n, hz_m (.getfield 375) 3 [7, 2] [], hz_n, hz_n, hz_r (.goto 4) 3, hz_n, hz_n, hz_m (.iconst (-1)) 1 [] [false, false, false, false], hz_m (.ireturn) 1 [] [false, false, false, false]]]
/-- HeavierServes.passYear()I -/
def hs_k165 : hs_K := [
  [hz_m (.iconst 0) 1 [] [true, false, false, false, false, false, false], hz_r (.istore_n 1) 1, hz_r (.iconst 0) 1, hz_r (.istore_n 2) 1, hz_r (.iconst 0) 1, hz_r (.istore_n 3) 1, hz_r (.aload_n 0) 1, hz_m (.getfield 10) 3 [11, 0] [], hz_n, hz_n, hz_m (.getfield 375) 3 [7, 2] [], hz_n, hz_n, hz_r (.ifCond .ne 7) 3, hz_n, hz_n],
  [hz_m (.iconst 0) 1 [] [true, true, true, true, false, false, false], hz_r (.goto 12) 3, hz_n, hz_n, hz_m (.aload_n 0) 1 [] [true, true, true, true, false, false, false], hz_m (.getfield 10) 3 [11, 0] [], hz_n, hz_n, hz_m (.getfield 375) 3 [7, 2] [], hz_n, hz_n, hz_r (.iconst 1) 1, hz_r (.iadd) 1, hz_m (.istore 4) 2 [] [true, true, true, true, false, false, false], hz_n, hz_r (.iconst 0) 1],
  [hz_r (.istore 5) 2, hz_n, hz_m (.iload 5) 2 [] [true, true, true, true, true, true, false], hz_n, hz_r (.iload 4) 2, hz_n, hz_r (.if_icmp .ge 97) 3, hz_n, hz_n, hz_m (.iload_n 3) 1 [] [true, true, true, true, true, true, false], hz_r (.ifCond .ne 93) 3, hz_n, hz_n, hz_m (.aload_n 0) 1 [] [true, true, true, true, true, true, false], hz_m (.getfield 10) 3 [11, 0] [], hz_n],
  [hz_n, hz_r (.iload 5) 2, hz_n, hz_m (.invokevirtual 378) 3 [66, 2, 1, 7] [], hz_n, hz_n, hz_r (.istore 6) 2, hz_n, hz_r (.iload 6) 2, hz_n, hz_r (.bipush 97) 2, hz_n, hz_r (.if_icmp .lt 23) 3, hz_n, hz_n, hz_r (.iload 6) 2],
  [hz_n, hz_r (.bipush 104) 2, hz_n, hz_r (.if_icmp .gt 16) 3, hz_n, hz_n, hz_r (.iload_n 2) 1, hz_r (.iconst 1) 1, hz_r (.iload 6) 2, hz_n, hz_r (.bipush 97) 2, hz_n, hz_r (.isub) 1, hz_r (.ishl) 1, hz_r (.ior) 1, hz_r (.istore_n 2) 1],
  [hz_r (.goto 49) 3, hz_n, hz_n, hz_m (.iload_n 2) 1 [] [true, true, true, true, true, true, false], hz_r (.aload_n 0) 1, hz_m (.getfield 26) 3 [11, 2] [], hz_n, hz_n, hz_m (.invokevirtual 186) 3 [70, 1, 1, 8] [], hz_n, hz_n, hz_r (.iconst (-1)) 1, hz_r (.ixor) 1, hz_r (.iand) 1, hz_r (.ifCond .eq 8) 3, hz_n],
  [hz_n, hz_m (.iconst 1) 1 [] [true, true, true, false, true, true, false], hz_r (.istore_n 3) 1, hz_r (.goto 30) 3, hz_n, hz_n, hz_m (.iload_n 1) 1 [] [true, true, true, true, true, true, false], hz_r (.ifCond .ne 14) 3, hz_n, hz_n, hz_m (.aload_n 0) 1 [] [true, true, true, true, true, true, false], hz_m (.getfield 54) 3 [11, 6] [], hz_n, hz_n, hz_r (.aload_n 0) 1, hz_m (.getfield 47) 3 [11, 5] []],
  [hz_n, hz_n, hz_m (.invokevirtual 190) 3 [40, 2, 0, 3] [], hz_n, hz_n, hz_m (.aload_n 0) 1 [] [true, true, true, true, true, true, false], hz_r (.iload_n 2) 1, hz_r (.iconst 0) 1, hz_m (.invokevirtual 194) 3 [163, 3, 1, 11] [], hz_n, hz_n, hz_r (.pop) 1, hz_r (.iinc 1 1) 3, hz_n, hz_n, hz_r (.iconst 0) 1],
  [hz_r (.istore_n 2) 1, hz_m (.iinc 5 1) 3 [] [true, true, true, true, true, true, false], hz_n, hz_n, hz_r (.goto (-98)) 3, hz_n, hz_n, hz_m (.aload_n 0) 1 [] [true, true, false, true, false, false, false], hz_m (.getfield 19) 3 [11, 1] [], hz_n, hz_n, hz_r (.aload_n 0) 1, hz_m (.getfield 47) 3 [11, 5] [], hz_n, hz_n, hz_m (.getfield 209) 3 [6, 1] []],
  [hz_n, hz_n, hz_r (.i2l) 1, hz_m (.invokevirtual 197) 3 [45, 2, 0, 4] [], hz_n, hz_n, hz_r (.aload_n 0) 1, hz_m (.getfield 19) 3 [11, 1] [], hz_n, hz_n, hz_r (.iload_n 3) 1, hz_r (.i2l) 1, hz_m (.invokevirtual 206) 3 [46, 2, 0, 4] [], hz_n, hz_n, hz_r (.iload_n 1) 1],
  [hz_r (.ireturn) 1]]
/-- HeavierServesModel.thrown()I -/
def hs_k166 : hs_K := [
  [hz_r (.aload_n 0) 1, hz_m (.getfield 3) 3 [12, 0] [], hz_n, hz_n, hz_r (.ireturn) 1]]
/-- HeavierServesModel.refuse()I -/
def hs_k167 : hs_K := [
  [hz_r (.aload_n 0) 1, hz_r (.iconst 1) 1, hz_m (.putfield 3) 3 [12, 0] [], hz_n, hz_n, hz_r (.iconst 0) 1, hz_r (.ireturn) 1]]
/-- HeavierServesModel.in(JJJ)Z -/
def hs_k168 : hs_K := [
  [hz_m (.lload_n 0) 1 [] [true, false, true, false, true, false], hz_r (.lload_n 2) 1, hz_r (.lcmp) 1, hz_r (.ifCond .lt 14) 3, hz_n, hz_n, hz_m (.lload_n 0) 1 [] [true, false, false, false, true, false], hz_r (.lload 4) 2, hz_n, hz_r (.lcmp) 1, hz_r (.ifCond .gt 7) 3, hz_n, hz_n, hz_m (.iconst 1) 1 [] [false, false, false, false, false, false], hz_r (.goto 4) 3, hz_n],
  [hz_n, hz_m (.iconst 0) 1 [] [false, false, false, false, false, false], hz_m (.ireturn) 1 [] [false, false, false, false, false, false]]]
/-- HeavierServesModel.has(II)Z -/
def hs_k169 : hs_K := [
  [hz_r (.iload_n 0) 1, hz_r (.iload_n 1) 1, hz_r (.ishr) 1, hz_r (.iconst 1) 1, hz_r (.iand) 1, hz_r (.iconst 1) 1, hz_r (.if_icmp .ne 7) 3, hz_n, hz_n, hz_m (.iconst 1) 1 [] [false, false], hz_r (.goto 4) 3, hz_n, hz_n, hz_m (.iconst 0) 1 [] [false, false], hz_m (.ireturn) 1 [] [false, false]]]
/-- HeavierServesModel.flag(Z)I -/
def hs_k170 : hs_K := [
  [hz_r (.iload_n 0) 1, hz_r (.ifCond .eq 7) 3, hz_n, hz_n, hz_m (.iconst 1) 1 [] [false], hz_r (.goto 4) 3, hz_n, hz_n, hz_m (.iconst 0) 1 [] [false], hz_m (.ireturn) 1 [] [false]]]
/-- HeavierServesModel.common(JJ)J -/
def hs_k171 : hs_K := [
  [hz_m (.lload_n 2) 1 [] [true, false, true, false], hz_r (.lconst 0) 1, hz_r (.lcmp) 1, hz_r (.ifCond .ne 7) 3, hz_n, hz_n, hz_m (.lload_n 0) 1 [] [true, false, false, false], hz_r (.goto 10) 3, hz_n, hz_n, hz_m (.lload_n 2) 1 [] [true, false, true, false], hz_r (.lload_n 0) 1, hz_r (.lload_n 2) 1, hz_r (.lrem) 1, hz_m (.invokestatic 7) 3 [171, 2, 2] [], hz_n],
  [hz_n, hz_m (.lreturn) 1 [] [false, false, false, false]]]
/-- HeavierServesModel.enters(J)V -/
def hs_k172 : hs_K := [
  [hz_m (.aload_n 0) 1 [] [true, true, false], hz_m (.getfield 11) 3 [12, 2] [], hz_n, hz_n, hz_r (.aload_n 0) 1, hz_m (.getfield 15) 3 [12, 1] [], hz_n, hz_n, hz_r (.lload_n 1) 1, hz_r (.lastore) 1, hz_r (.aload_n 0) 1, hz_r (.dup) 1, hz_m (.getfield 15) 3 [12, 1] [], hz_n, hz_n, hz_r (.iconst 1) 1],
  [hz_r (.iadd) 1, hz_m (.putfield 15) 3 [12, 1] [], hz_n, hz_n, hz_r (.return_) 1]]
/-- HeavierServesModel.entersFraction(JJ)V -/
def hs_k173 : hs_K := [
  [hz_m (.lload_n 1) 1 [] [true, true, false, true, false, false, false], hz_r (.lload_n 3) 1, hz_m (.invokestatic 7) 3 [171, 2, 2] [], hz_n, hz_n, hz_r (.lstore 5) 2, hz_n, hz_r (.aload_n 0) 1, hz_r (.lload_n 1) 1, hz_r (.lload 5) 2, hz_n, hz_r (.ldiv) 1, hz_m (.invokevirtual 18) 3 [172, 2, 0, 12] [], hz_n, hz_n, hz_r (.aload_n 0) 1],
  [hz_r (.lload_n 3) 1, hz_r (.lload 5) 2, hz_n, hz_r (.ldiv) 1, hz_m (.invokevirtual 18) 3 [172, 2, 0, 12] [], hz_n, hz_n, hz_r (.return_) 1]]
/-- HeavierServesModel.isPerson(I)Z -/
def hs_k174 : hs_K := [
  [hz_r (.iload_n 1) 1, hz_r (.i2l) 1, hz_r (.lconst 0) 1, hz_r (.aload_n 0) 1, hz_m (.getfield 117) 3 [12, 3] [], hz_n, hz_n, hz_r (.iconst 1) 1, hz_r (.isub) 1, hz_r (.i2l) 1, hz_m (.invokestatic 120) 3 [168, 3, 1] [], hz_n, hz_n, hz_r (.ireturn) 1]]
/-- HeavierServesModel.isAlive(I)Z -/
def hs_k175 : hs_K := [
  [hz_r (.aload_n 0) 1, hz_r (.iload_n 1) 1, hz_m (.invokevirtual 124) 3 [174, 2, 1, 12] [], hz_n, hz_n, hz_r (.ifCond .eq 21) 3, hz_n, hz_n, hz_r (.aload_n 0) 1, hz_m (.getfield 44) 3 [12, 10] [], hz_n, hz_n, hz_r (.bipush 16) 2, hz_n, hz_r (.iaload) 1, hz_r (.iload_n 1) 1],
  [hz_m (.invokestatic 128) 3 [169, 2, 1] [], hz_n, hz_n, hz_r (.ifCond .eq 7) 3, hz_n, hz_n, hz_m (.iconst 1) 1 [] [false, false], hz_r (.goto 4) 3, hz_n, hz_n, hz_m (.iconst 0) 1 [] [false, false], hz_m (.ireturn) 1 [] [false, false]]]
/-- HeavierServesModel.sign(I)I -/
def hs_k176 : hs_K := [
  [hz_m (.aload_n 0) 1 [] [true, true, false], hz_r (.iconst 0) 1, hz_m (.putfield 3) 3 [12, 0] [], hz_n, hz_n, hz_r (.aload_n 0) 1, hz_m (.getfield 132) 3 [12, 13] [], hz_n, hz_n, hz_r (.bipush 76) 2, hz_n, hz_r (.if_icmp .le 5) 3, hz_n, hz_n, hz_m (.iconst (-1)) 1 [] [false, false, false], hz_r (.ireturn) 1],
  [hz_m (.iconst 0) 1 [] [true, true, false], hz_r (.istore_n 2) 1, hz_r (.iload_n 2) 1, hz_r (.iconst 4) 1, hz_r (.if_icmp .ge 33) 3, hz_n, hz_n, hz_r (.aload_n 0) 1, hz_m (.getfield 50) 3 [12, 12] [], hz_n, hz_n, hz_r (.aload_n 0) 1, hz_m (.getfield 132) 3 [12, 13] [], hz_n, hz_n, hz_r (.iload_n 2) 1],
  [hz_r (.iadd) 1, hz_r (.iload_n 1) 1, hz_r (.bipush 24) 2, hz_n, hz_r (.bipush 8) 2, hz_n, hz_r (.iload_n 2) 1, hz_r (.imul) 1, hz_r (.isub) 1, hz_r (.ishr) 1, hz_r (.sipush 255) 3, hz_n, hz_n, hz_r (.iand) 1, hz_r (.iastore) 1, hz_r (.iinc 2 1) 3],
  [hz_n, hz_n, hz_r (.goto (-32)) 3, hz_n, hz_n, hz_m (.aload_n 0) 1 [] [true, false, false], hz_r (.dup) 1, hz_m (.getfield 132) 3 [12, 13] [], hz_n, hz_n, hz_r (.iconst 4) 1, hz_r (.iadd) 1, hz_m (.putfield 132) 3 [12, 13] [], hz_n, hz_n, hz_r (.aload_n 0) 1],
  [hz_m (.getfield 132) 3 [12, 13] [], hz_n, hz_n, hz_r (.ireturn) 1]]
/-- HeavierServesModel.end(I)Z -/
def hs_k177 : hs_K := [
  [hz_r (.aload_n 0) 1, hz_r (.iconst 0) 1, hz_m (.putfield 3) 3 [12, 0] [], hz_n, hz_n, hz_r (.iload_n 1) 1, hz_r (.i2l) 1, hz_r (.lconst 0) 1, hz_r (.aload_n 0) 1, hz_m (.getfield 132) 3 [12, 13] [], hz_n, hz_n, hz_r (.i2l) 1, hz_m (.invokestatic 120) 3 [168, 3, 1] [], hz_n, hz_n],
  [hz_r (.ifCond .ne 5) 3, hz_n, hz_n, hz_m (.iconst 0) 1 [] [false, false], hz_r (.ireturn) 1, hz_r (.aload_n 0) 1, hz_r (.iload_n 1) 1, hz_m (.putfield 132) 3 [12, 13] [], hz_n, hz_n, hz_r (.iconst 1) 1, hz_r (.ireturn) 1]]
/-- HeavierServesModel.begins(I)I -/
def hs_k178 : hs_K := [
  [hz_m (.aload_n 0) 1 [] [true, true, false], hz_m (.getfield 132) 3 [12, 13] [], hz_n, hz_n, hz_r (.istore_n 2) 1, hz_r (.aload_n 0) 1, hz_r (.iconst 0) 1, hz_m (.putfield 132) 3 [12, 13] [], hz_n, hz_n, hz_r (.aload_n 0) 1, hz_r (.iconst 0) 1, hz_m (.putfield 135) 3 [12, 14] [], hz_n, hz_n, hz_r (.aload_n 0) 1],
  [hz_r (.iconst 0) 1, hz_m (.putfield 138) 3 [12, 16] [], hz_n, hz_n, hz_r (.aload_n 0) 1, hz_r (.iload_n 2) 1, hz_r (.iload_n 1) 1, hz_m (.invokestatic 141) 3 [3, 2, 1] [], hz_n, hz_n, hz_m (.putfield 147) 3 [12, 15] [], hz_n, hz_n, hz_r (.iload_n 2) 1, hz_r (.ireturn) 1]]
/-- HeavierServesModel.takes(I)Z -/
def hs_k179 : hs_K := [
  [hz_m (.aload_n 0) 1 [] [true, true, false], hz_m (.getfield 135) 3 [12, 14] [], hz_n, hz_n, hz_r (.aload_n 0) 1, hz_m (.getfield 147) 3 [12, 15] [], hz_n, hz_n, hz_r (.if_icmp .ge 20) 3, hz_n, hz_n, hz_m (.aload_n 0) 1 [] [true, true, false], hz_m (.getfield 50) 3 [12, 12] [], hz_n, hz_n, hz_r (.aload_n 0) 1],
  [hz_m (.getfield 135) 3 [12, 14] [], hz_n, hz_n, hz_r (.iaload) 1, hz_r (.iload_n 1) 1, hz_r (.if_icmp .ne 7) 3, hz_n, hz_n, hz_m (.iconst 1) 1 [] [true, false, false], hz_r (.goto 4) 3, hz_n, hz_n, hz_m (.iconst 0) 1 [] [true, false, false], hz_m (.istore_n 2) 1 [] [true, false, false], hz_r (.aload_n 0) 1, hz_r (.dup) 1],
  [hz_m (.getfield 135) 3 [12, 14] [], hz_n, hz_n, hz_r (.iload_n 2) 1, hz_m (.invokestatic 150) 3 [170, 1, 1] [], hz_n, hz_n, hz_r (.iadd) 1, hz_m (.putfield 135) 3 [12, 14] [], hz_n, hz_n, hz_r (.iload_n 2) 1, hz_r (.ireturn) 1]]
/-- HeavierServesModel.isDigit()Z -/
def hs_k180 : hs_K := [
  [hz_r (.aload_n 0) 1, hz_m (.getfield 135) 3 [12, 14] [], hz_n, hz_n, hz_r (.aload_n 0) 1, hz_m (.getfield 147) 3 [12, 15] [], hz_n, hz_n, hz_r (.if_icmp .ge 29) 3, hz_n, hz_n, hz_r (.aload_n 0) 1, hz_m (.getfield 50) 3 [12, 12] [], hz_n, hz_n, hz_r (.aload_n 0) 1],
  [hz_m (.getfield 135) 3 [12, 14] [], hz_n, hz_n, hz_r (.iaload) 1, hz_r (.i2l) 1, hz_m (.ldc2_w 154) 3 [0, 48] [], hz_n, hz_n, hz_m (.ldc2_w 156) 3 [0, 57] [], hz_n, hz_n, hz_m (.invokestatic 120) 3 [168, 3, 1] [], hz_n, hz_n, hz_r (.ifCond .eq 7) 3, hz_n],
  [hz_n, hz_m (.iconst 1) 1 [] [false], hz_r (.goto 4) 3, hz_n, hz_n, hz_m (.iconst 0) 1 [] [false], hz_m (.ireturn) 1 [] [false]]]
/-- HeavierServesModel.number(I)I -/
def hs_k181 : hs_K := [
  [hz_m (.iconst 0) 1 [] [true, true, false, false], hz_r (.istore_n 2) 1, hz_r (.iconst 0) 1, hz_r (.istore_n 3) 1, hz_r (.iload_n 3) 1, hz_r (.iload_n 1) 1, hz_r (.if_icmp .ge 44) 3, hz_n, hz_n, hz_r (.aload_n 0) 1, hz_m (.invokevirtual 158) 3 [180, 1, 1, 12] [], hz_n, hz_n, hz_r (.ifCond .eq 37) 3, hz_n, hz_n],
  [hz_r (.bipush 10) 2, hz_n, hz_r (.iload_n 2) 1, hz_r (.imul) 1, hz_r (.aload_n 0) 1, hz_m (.getfield 50) 3 [12, 12] [], hz_n, hz_n, hz_r (.aload_n 0) 1, hz_m (.getfield 135) 3 [12, 14] [], hz_n, hz_n, hz_r (.iaload) 1, hz_r (.iadd) 1, hz_r (.bipush 48) 2, hz_n],
  [hz_r (.isub) 1, hz_r (.istore_n 2) 1, hz_r (.aload_n 0) 1, hz_r (.dup) 1, hz_m (.getfield 135) 3 [12, 14] [], hz_n, hz_n, hz_r (.iconst 1) 1, hz_r (.iadd) 1, hz_m (.putfield 135) 3 [12, 14] [], hz_n, hz_n, hz_r (.iinc 3 1) 3, hz_n, hz_n, hz_r (.goto (-43)) 3],
  [hz_n, hz_n, hz_m (.iload_n 2) 1 [] [false, false, true, false], hz_r (.ireturn) 1]]
/-- HeavierServesModel.among(Ljava/lang/String;)I -/
def hs_k182 : hs_K := [
  [hz_m (.iconst 0) 1 [] [true, true, false], hz_r (.istore_n 2) 1, hz_r (.iload_n 2) 1, hz_r (.aload_n 1) 1, hz_m (.invokevirtual 162) 3 [7, 0] [], hz_n, hz_n, hz_r (.if_icmp .ge 39) 3, hz_n, hz_n, hz_r (.aload_n 0) 1, hz_m (.getfield 135) 3 [12, 14] [], hz_n, hz_n, hz_r (.aload_n 0) 1, hz_m (.getfield 147) 3 [12, 15] []],
  [hz_n, hz_n, hz_r (.if_icmp .ge 28) 3, hz_n, hz_n, hz_r (.aload_n 1) 1, hz_r (.iload_n 2) 1, hz_m (.invokevirtual 168) 3 [7, 1] [], hz_n, hz_n, hz_r (.aload_n 0) 1, hz_m (.getfield 50) 3 [12, 12] [], hz_n, hz_n, hz_r (.aload_n 0) 1, hz_m (.getfield 135) 3 [12, 14] []],
  [hz_n, hz_n, hz_r (.iaload) 1, hz_r (.if_icmp .ne 5) 3, hz_n, hz_n, hz_m (.iload_n 2) 1 [] [false, false, true], hz_r (.ireturn) 1, hz_r (.iinc 2 1) 3, hz_n, hz_n, hz_r (.goto (-41)) 3, hz_n, hz_n, hz_m (.iconst (-1)) 1 [] [false, false, false], hz_r (.ireturn) 1]]
/-- HeavierServesModel.faultOf(IIZ)I -/
def hs_k183 : hs_K := [
  [hz_m (.iload_n 3) 1 [] [true, true, true, true, false], hz_r (.ifCond .eq 18) 3, hz_n, hz_n, hz_m (.aload_n 0) 1 [] [true, true, true, false, false], hz_m (.getfield 135) 3 [12, 14] [], hz_n, hz_n, hz_r (.aload_n 0) 1, hz_m (.getfield 147) 3 [12, 15] [], hz_n, hz_n, hz_r (.if_icmp .ne 7) 3, hz_n, hz_n, hz_m (.iconst 1) 1 [] [true, true, true, false, false]],
  [hz_r (.goto 4) 3, hz_n, hz_n, hz_m (.iconst 0) 1 [] [true, true, true, false, false], hz_m (.istore 4) 2 [] [true, true, true, false, false], hz_n, hz_r (.iload_n 1) 1, hz_r (.iload_n 2) 1, hz_r (.if_icmp .le 20) 3, hz_n, hz_n, hz_m (.iload 4) 2 [] [true, false, true, false, true], hz_n, hz_r (.ifCond .ne 11) 3, hz_n, hz_n],
  [hz_m (.aload_n 0) 1 [] [true, false, true, false, true], hz_m (.getfield 135) 3 [12, 14] [], hz_n, hz_n, hz_r (.iload_n 2) 1, hz_r (.if_icmp .lt 7) 3, hz_n, hz_n, hz_m (.iconst (-1)) 1 [] [false, false, true, false, false], hz_r (.iload_n 2) 1, hz_r (.isub) 1, hz_r (.ireturn) 1, hz_m (.iload 4) 2 [] [true, false, false, false, true], hz_n, hz_r (.ifCond .eq 7) 3, hz_n],
  [hz_n, hz_m (.iconst 0) 1 [] [false, false, false, false, false], hz_r (.goto 9) 3, hz_n, hz_n, hz_m (.iconst (-1)) 1 [] [true, false, false, false, false], hz_r (.aload_n 0) 1, hz_m (.getfield 135) 3 [12, 14] [], hz_n, hz_n, hz_r (.isub) 1, hz_m (.ireturn) 1 [] [false, false, false, false, false]]]
/-- HeavierServesModel.readsHabit(I)Z -/
def hs_k184 : hs_K := [
  [hz_m (.iconst 0) 1 [] [true, true, false, false], hz_r (.istore_n 2) 1, hz_m (.iload_n 2) 1 [] [true, true, true, false], hz_r (.bipush 6) 2, hz_n, hz_r (.if_icmp .ge 81) 3, hz_n, hz_n, hz_m (.aload_n 0) 1 [] [true, true, true, false], hz_m (.ldc 172) 2 [1, 0] [], hz_n, hz_m (.invokevirtual 174) 3 [182, 2, 1, 12] [], hz_n, hz_n, hz_r (.ifCond .lt 72) 3, hz_n],
  [hz_n, hz_m (.aload_n 0) 1 [] [true, true, true, false], hz_r (.bipush 43) 2, hz_n, hz_m (.invokevirtual 178) 3 [179, 2, 1, 12] [], hz_n, hz_n, hz_r (.ifCond .eq 7) 3, hz_n, hz_n, hz_m (.iconst 1) 1 [] [true, true, true, false], hz_r (.goto 4) 3, hz_n, hz_n, hz_m (.iconst (-1)) 1 [] [true, true, true, false], hz_m (.istore_n 3) 1 [] [true, true, true, false]],
  [hz_r (.aload_n 0) 1, hz_r (.dup) 1, hz_m (.getfield 135) 3 [12, 14] [], hz_n, hz_n, hz_r (.iload_n 3) 1, hz_r (.ifCond .ge 7) 3, hz_n, hz_n, hz_r (.iconst 1) 1, hz_r (.goto 4) 3, hz_n, hz_n, hz_r (.iconst 0) 1, hz_m (.invokestatic 150) 3 [170, 1, 1] [], hz_n],
  [hz_n, hz_r (.iadd) 1, hz_m (.putfield 135) 3 [12, 14] [], hz_n, hz_n, hz_r (.aload_n 0) 1, hz_m (.invokevirtual 158) 3 [180, 1, 1, 12] [], hz_n, hz_n, hz_r (.ifCond .ne 5) 3, hz_n, hz_n, hz_m (.iconst 0) 1 [] [false, false, false, false], hz_r (.ireturn) 1, hz_r (.aload_n 0) 1, hz_m (.getfield 59) 3 [12, 19] []],
  [hz_n, hz_n, hz_r (.bipush 6) 2, hz_n, hz_r (.iload_n 1) 1, hz_r (.imul) 1, hz_r (.iload_n 2) 1, hz_r (.iadd) 1, hz_r (.iload_n 3) 1, hz_r (.aload_n 0) 1, hz_r (.iconst 1) 1, hz_m (.invokevirtual 181) 3 [181, 2, 1, 12] [], hz_n, hz_n, hz_r (.imul) 1, hz_r (.iastore) 1],
  [hz_r (.iinc 2 1) 3, hz_n, hz_n, hz_r (.goto (-81)) 3, hz_n, hz_n, hz_m (.aload_n 0) 1 [] [true, true, true, false], hz_m (.getfield 62) 3 [12, 20] [], hz_n, hz_n, hz_r (.iload_n 1) 1, hz_r (.iload_n 2) 1, hz_r (.iastore) 1, hz_r (.iconst 1) 1, hz_r (.ireturn) 1]]
/-- HeavierServesModel.readsPerson()Z -/
def hs_k185 : hs_K := [
  [hz_m (.aload_n 0) 1 [] [true, false], hz_m (.getfield 117) 3 [12, 3] [], hz_n, hz_n, hz_r (.aload_n 0) 1, hz_m (.getfield 185) 3 [12, 21] [], hz_n, hz_n, hz_r (.iadd) 1, hz_r (.istore_n 1) 1, hz_r (.aload_n 0) 1, hz_m (.invokevirtual 158) 3 [180, 1, 1, 12] [], hz_n, hz_n, hz_r (.ifCond .eq 9) 3, hz_n],
  [hz_n, hz_r (.iload_n 1) 1, hz_r (.bipush 8) 2, hz_n, hz_r (.if_icmp .ne 5) 3, hz_n, hz_n, hz_m (.iconst 0) 1 [] [false, false], hz_r (.ireturn) 1, hz_r (.aload_n 0) 1, hz_m (.getfield 53) 3 [12, 17] [], hz_n, hz_n, hz_r (.iload_n 1) 1, hz_r (.aload_n 0) 1, hz_r (.iconst 3) 1],
  [hz_m (.invokevirtual 181) 3 [181, 2, 1, 12] [], hz_n, hz_n, hz_r (.iastore) 1, hz_r (.aload_n 0) 1, hz_m (.getfield 53) 3 [12, 17] [], hz_n, hz_n, hz_r (.iload_n 1) 1, hz_r (.iaload) 1, hz_r (.ifCond .ne 15) 3, hz_n, hz_n, hz_m (.aload_n 0) 1 [] [true, false], hz_r (.dup) 1, hz_m (.getfield 135) 3 [12, 14] []],
  [hz_n, hz_n, hz_r (.iconst 1) 1, hz_r (.isub) 1, hz_m (.putfield 135) 3 [12, 14] [], hz_n, hz_n, hz_r (.iconst 0) 1, hz_r (.ireturn) 1, hz_r (.aload_n 0) 1, hz_m (.getfield 56) 3 [12, 18] [], hz_n, hz_n, hz_r (.iload_n 1) 1, hz_r (.iconst 0) 1, hz_r (.iastore) 1],
  [hz_r (.aload_n 0) 1, hz_r (.bipush 42) 2, hz_n, hz_m (.invokevirtual 178) 3 [179, 2, 1, 12] [], hz_n, hz_n, hz_r (.ifCond .eq 25) 3, hz_n, hz_n, hz_r (.aload_n 0) 1, hz_m (.ldc 188) 2 [1, 1] [], hz_n, hz_m (.invokevirtual 174) 3 [182, 2, 1, 12] [], hz_n, hz_n, hz_r (.ifCond .ge 5) 3],
  [hz_n, hz_n, hz_m (.iconst 0) 1 [] [false, false], hz_r (.ireturn) 1, hz_r (.aload_n 0) 1, hz_m (.getfield 56) 3 [12, 18] [], hz_n, hz_n, hz_r (.iload_n 1) 1, hz_r (.aload_n 0) 1, hz_r (.iconst 1) 1, hz_m (.invokevirtual 181) 3 [181, 2, 1, 12] [], hz_n, hz_n, hz_r (.iastore) 1, hz_r (.aload_n 0) 1],
  [hz_r (.dup) 1, hz_m (.getfield 185) 3 [12, 21] [], hz_n, hz_n, hz_r (.iconst 1) 1, hz_r (.iadd) 1, hz_m (.putfield 185) 3 [12, 21] [], hz_n, hz_n, hz_r (.aload_n 0) 1, hz_r (.iload_n 1) 1, hz_m (.invokevirtual 190) 3 [184, 2, 1, 12] [], hz_n, hz_n, hz_r (.ireturn) 1]]
/-- HeavierServesModel.town()I -/
def hs_k186 : hs_K := [
  [hz_m (.aload_n 0) 1 [] [true, false, false, false, false, false, false], hz_r (.iconst 0) 1, hz_m (.putfield 3) 3 [12, 0] [], hz_n, hz_n, hz_r (.aload_n 0) 1, hz_r (.bipush 76) 2, hz_n, hz_m (.invokevirtual 193) 3 [178, 2, 1, 12] [], hz_n, hz_n, hz_r (.istore_n 1) 1, hz_r (.aload_n 0) 1, hz_r (.iconst 0) 1, hz_m (.putfield 185) 3 [12, 21] [], hz_n],
  [hz_n, hz_r (.iconst 1) 1, hz_r (.istore_n 2) 1, hz_r (.iload_n 1) 1, hz_r (.ifCond .le 7) 3, hz_n, hz_n, hz_m (.iconst 1) 1 [] [true, true, true, false, false, false, false], hz_r (.goto 4) 3, hz_n, hz_n, hz_m (.iconst 0) 1 [] [true, true, true, false, false, false, false], hz_m (.istore_n 3) 1 [] [true, true, true, false, false, false, false], hz_m (.iload_n 3) 1 [] [true, true, true, true, false, false, false], hz_r (.ifCond .eq 30) 3, hz_n],
  [hz_n, hz_m (.aload_n 0) 1 [] [true, true, false, false, false, false, false], hz_m (.invokevirtual 196) 3 [185, 1, 1, 12] [], hz_n, hz_n, hz_r (.istore_n 2) 1, hz_r (.iload_n 2) 1, hz_r (.ifCond .eq 16) 3, hz_n, hz_n, hz_m (.aload_n 0) 1 [] [true, true, true, false, false, false, false], hz_r (.bipush 59) 2, hz_n, hz_m (.invokevirtual 178) 3 [179, 2, 1, 12] [], hz_n, hz_n],
  [hz_r (.ifCond .eq 7) 3, hz_n, hz_n, hz_m (.iconst 1) 1 [] [true, true, true, false, false, false, false], hz_r (.goto 4) 3, hz_n, hz_n, hz_m (.iconst 0) 1 [] [true, true, true, false, false, false, false], hz_m (.istore_n 3) 1 [] [true, true, true, false, false, false, false], hz_r (.goto (-28)) 3, hz_n, hz_n, hz_m (.aload_n 0) 1 [] [true, true, true, false, false, false, false], hz_r (.iload_n 1) 1, hz_r (.bipush 76) 2, hz_n],
  [hz_r (.iload_n 2) 1, hz_m (.invokevirtual 199) 3 [183, 4, 1, 12] [], hz_n, hz_n, hz_r (.istore 4) 2, hz_n, hz_r (.iload 4) 2, hz_n, hz_r (.ifCond .ge 6) 3, hz_n, hz_n, hz_m (.iload 4) 2 [] [false, false, false, false, true, false, false], hz_n, hz_r (.ireturn) 1, hz_m (.iconst 0) 1 [] [true, true, false, false, false, false, false], hz_r (.istore 5) 2],
  [hz_n, hz_m (.iload 5) 2 [] [true, true, false, false, false, true, false], hz_n, hz_r (.aload_n 0) 1, hz_m (.getfield 185) 3 [12, 21] [], hz_n, hz_n, hz_r (.if_icmp .ge 54) 3, hz_n, hz_n, hz_m (.aload_n 0) 1 [] [true, true, false, false, false, true, false], hz_m (.getfield 117) 3 [12, 3] [], hz_n, hz_n, hz_r (.iload 5) 2, hz_n],
  [hz_r (.iadd) 1, hz_r (.istore 6) 2, hz_n, hz_r (.aload_n 0) 1, hz_m (.getfield 44) 3 [12, 10] [], hz_n, hz_n, hz_r (.iload 6) 2, hz_n, hz_r (.aload_n 0) 1, hz_m (.getfield 53) 3 [12, 17] [], hz_n, hz_n, hz_r (.iload 6) 2, hz_n, hz_r (.iaload) 1],
  [hz_r (.iastore) 1, hz_r (.aload_n 0) 1, hz_m (.getfield 28) 3 [12, 4] [], hz_n, hz_n, hz_r (.iload 6) 2, hz_n, hz_r (.aload_n 0) 1, hz_m (.getfield 56) 3 [12, 18] [], hz_n, hz_n, hz_r (.iload 6) 2, hz_n, hz_r (.iaload) 1, hz_r (.iastore) 1, hz_r (.aload_n 0) 1],
  [hz_r (.iload 6) 2, hz_n, hz_r (.iload 6) 2, hz_n, hz_m (.invokevirtual 203) 3 [187, 3, 0, 12] [], hz_n, hz_n, hz_r (.iinc 5 1) 3, hz_n, hz_n, hz_r (.goto (-57)) 3, hz_n, hz_n, hz_m (.aload_n 0) 1 [] [true, true, false, false, false, false, false], hz_r (.dup) 1, hz_m (.getfield 117) 3 [12, 3] []],
  [hz_n, hz_n, hz_r (.aload_n 0) 1, hz_m (.getfield 185) 3 [12, 21] [], hz_n, hz_n, hz_r (.iadd) 1, hz_m (.putfield 117) 3 [12, 3] [], hz_n, hz_n, hz_r (.aload_n 0) 1, hz_r (.iload_n 1) 1, hz_r (.ifCond .le 7) 3, hz_n, hz_n, hz_m (.iconst 0) 1 [] [true, false, false, false, false, false, false]],
  [hz_r (.goto 7) 3, hz_n, hz_n, hz_m (.aload_n 0) 1 [] [true, false, false, false, false, false, false], hz_m (.getfield 207) 3 [12, 28] [], hz_n, hz_n, hz_m (.putfield 207) 3 [12, 28] [true, false, false, false, false, false, false], hz_n, hz_n, hz_r (.aload_n 0) 1, hz_m (.getfield 185) 3 [12, 21] [], hz_n, hz_n, hz_r (.ireturn) 1]]
/-- HeavierServesModel.comes(II)V -/
def hs_k187 : hs_K := [
  [hz_r (.aload_n 0) 1, hz_m (.getfield 44) 3 [12, 10] [], hz_n, hz_n, hz_r (.bipush 8) 2, hz_n, hz_r (.iload_n 1) 1, hz_r (.iadd) 1, hz_r (.iconst 0) 1, hz_r (.iastore) 1, hz_r (.aload_n 0) 1, hz_m (.getfield 44) 3 [12, 10] [], hz_n, hz_n, hz_r (.bipush 16) 2, hz_n],
  [hz_r (.dup2) 1, hz_r (.iaload) 1, hz_r (.iconst 1) 1, hz_r (.iload_n 1) 1, hz_r (.ishl) 1, hz_r (.ior) 1, hz_r (.iastore) 1, hz_r (.aload_n 0) 1, hz_m (.getfield 32) 3 [12, 5] [], hz_n, hz_n, hz_r (.iload_n 1) 1, hz_r (.iconst 0) 1, hz_r (.iastore) 1, hz_r (.aload_n 0) 1, hz_r (.iload_n 1) 1],
  [hz_r (.iload_n 2) 1, hz_m (.invokevirtual 210) 3 [188, 3, 0, 12] [], hz_n, hz_n, hz_r (.return_) 1]]
/-- HeavierServesModel.putsHabit(II)V -/
def hs_k188 : hs_K := [
  [hz_m (.aload_n 0) 1 [] [true, true, true, false], hz_m (.getfield 38) 3 [12, 7] [], hz_n, hz_n, hz_r (.iload_n 1) 1, hz_r (.aload_n 0) 1, hz_m (.getfield 62) 3 [12, 20] [], hz_n, hz_n, hz_r (.iload_n 2) 1, hz_r (.iaload) 1, hz_r (.iastore) 1, hz_r (.iconst 0) 1, hz_r (.istore_n 3) 1, hz_r (.iload_n 3) 1, hz_r (.bipush 6) 2],
  [hz_n, hz_r (.if_icmp .ge 31) 3, hz_n, hz_n, hz_r (.aload_n 0) 1, hz_m (.getfield 35) 3 [12, 6] [], hz_n, hz_n, hz_r (.bipush 6) 2, hz_n, hz_r (.iload_n 1) 1, hz_r (.imul) 1, hz_r (.iload_n 3) 1, hz_r (.iadd) 1, hz_r (.aload_n 0) 1, hz_m (.getfield 59) 3 [12, 19] []],
  [hz_n, hz_n, hz_r (.bipush 6) 2, hz_n, hz_r (.iload_n 2) 1, hz_r (.imul) 1, hz_r (.iload_n 3) 1, hz_r (.iadd) 1, hz_r (.iaload) 1, hz_r (.iastore) 1, hz_r (.iinc 3 1) 3, hz_n, hz_n, hz_r (.goto (-31)) 3, hz_n, hz_n],
  [hz_m (.return_) 1 [] [false, false, false, false]]]
/-- HeavierServesModel.habit(I)I -/
def hs_k189 : hs_K := [
  [hz_m (.aload_n 0) 1 [] [true, true, false, false, false], hz_r (.iconst 0) 1, hz_m (.putfield 3) 3 [12, 0] [], hz_n, hz_n, hz_r (.aload_n 0) 1, hz_r (.bipush 12) 2, hz_n, hz_m (.invokevirtual 193) 3 [178, 2, 1, 12] [], hz_n, hz_n, hz_r (.istore_n 2) 1, hz_r (.aload_n 0) 1, hz_r (.iload_n 1) 1, hz_m (.invokevirtual 124) 3 [174, 2, 1, 12] [], hz_n],
  [hz_n, hz_r (.ifCond .ne 6) 3, hz_n, hz_n, hz_m (.bipush (-100)) 2 [] [false, false, false, false, false], hz_n, hz_r (.ireturn) 1, hz_m (.aload_n 0) 1 [] [true, true, true, false, false], hz_r (.bipush 8) 2, hz_n, hz_m (.invokevirtual 190) 3 [184, 2, 1, 12] [], hz_n, hz_n, hz_r (.istore_n 3) 1, hz_r (.aload_n 0) 1, hz_r (.iload_n 2) 1],
  [hz_r (.bipush 12) 2, hz_n, hz_r (.iload_n 3) 1, hz_m (.invokevirtual 199) 3 [183, 4, 1, 12] [], hz_n, hz_n, hz_r (.istore 4) 2, hz_n, hz_r (.iload 4) 2, hz_n, hz_r (.ifCond .ge 6) 3, hz_n, hz_n, hz_m (.iload 4) 2 [] [false, false, false, false, true], hz_n, hz_r (.ireturn) 1],
  [hz_m (.aload_n 0) 1 [] [true, true, false, false, false], hz_r (.iload_n 1) 1, hz_r (.bipush 8) 2, hz_n, hz_m (.invokevirtual 210) 3 [188, 3, 0, 12] [], hz_n, hz_n, hz_r (.aload_n 0) 1, hz_m (.getfield 38) 3 [12, 7] [], hz_n, hz_n, hz_r (.iload_n 1) 1, hz_r (.iaload) 1, hz_r (.ireturn) 1]]
/-- HeavierServesModel.codes(I)V -/
def hs_k190 : hs_K := [
  [hz_r (.aload_n 0) 1, hz_m (.getfield 68) 3 [12, 23] [], hz_n, hz_n, hz_r (.aload_n 0) 1, hz_m (.getfield 213) 3 [12, 25] [], hz_n, hz_n, hz_r (.iload_n 1) 1, hz_r (.iastore) 1, hz_r (.aload_n 0) 1, hz_r (.dup) 1, hz_m (.getfield 213) 3 [12, 25] [], hz_n, hz_n, hz_r (.iconst 1) 1],
  [hz_r (.iadd) 1, hz_m (.putfield 213) 3 [12, 25] [], hz_n, hz_n, hz_r (.return_) 1]]
/-- HeavierServesModel.readsThing()Z -/
def hs_k191 : hs_K := [
  [hz_m (.aload_n 0) 1 [] [true, false], hz_r (.bipush 45) 2, hz_n, hz_m (.invokevirtual 178) 3 [179, 2, 1, 12] [], hz_n, hz_n, hz_r (.ifCond .eq 17) 3, hz_n, hz_n, hz_m (.aload_n 0) 1 [] [true, false], hz_m (.invokevirtual 216) 3 [191, 1, 1, 12] [], hz_n, hz_n, hz_r (.istore_n 1) 1, hz_r (.aload_n 0) 1, hz_r (.sipush 3000) 3],
  [hz_n, hz_n, hz_m (.invokevirtual 219) 3 [190, 2, 0, 12] [], hz_n, hz_n, hz_r (.iload_n 1) 1, hz_r (.ireturn) 1, hz_m (.aload_n 0) 1 [] [true, false], hz_m (.invokevirtual 158) 3 [180, 1, 1, 12] [], hz_n, hz_n, hz_r (.ifCond .eq 14) 3, hz_n, hz_n, hz_m (.aload_n 0) 1 [] [true, false], hz_r (.aload_n 0) 1],
  [hz_r (.iconst 3) 1, hz_m (.invokevirtual 181) 3 [181, 2, 1, 12] [], hz_n, hz_n, hz_m (.invokevirtual 219) 3 [190, 2, 0, 12] [], hz_n, hz_n, hz_r (.iconst 1) 1, hz_r (.ireturn) 1, hz_m (.aload_n 0) 1 [] [true, false], hz_m (.ldc 223) 2 [1, 2] [], hz_n, hz_m (.invokevirtual 174) 3 [182, 2, 1, 12] [], hz_n, hz_n, hz_r (.istore_n 1) 1],
  [hz_r (.iload_n 1) 1, hz_r (.ifCond .lt 24) 3, hz_n, hz_n, hz_r (.aload_n 0) 1, hz_r (.dup) 1, hz_m (.getfield 135) 3 [12, 14] [], hz_n, hz_n, hz_r (.iconst 1) 1, hz_r (.iadd) 1, hz_m (.putfield 135) 3 [12, 14] [], hz_n, hz_n, hz_r (.aload_n 0) 1, hz_r (.sipush 1000) 3],
  [hz_n, hz_n, hz_r (.iload_n 1) 1, hz_r (.iadd) 1, hz_m (.invokevirtual 219) 3 [190, 2, 0, 12] [], hz_n, hz_n, hz_r (.iconst 1) 1, hz_r (.ireturn) 1, hz_m (.aload_n 0) 1 [] [true, false], hz_m (.getfield 138) 3 [12, 16] [], hz_n, hz_n, hz_r (.iconst 4) 1, hz_r (.if_icmp .eq 12) 3, hz_n],
  [hz_n, hz_m (.aload_n 0) 1 [] [true, false], hz_r (.bipush 40) 2, hz_n, hz_m (.invokevirtual 178) 3 [179, 2, 1, 12] [], hz_n, hz_n, hz_r (.ifCond .ne 5) 3, hz_n, hz_n, hz_m (.iconst 0) 1 [] [false, false], hz_r (.ireturn) 1, hz_m (.aload_n 0) 1 [] [true, false], hz_r (.dup) 1, hz_m (.getfield 138) 3 [12, 16] [], hz_n],
  [hz_n, hz_r (.iconst 1) 1, hz_r (.iadd) 1, hz_m (.putfield 138) 3 [12, 16] [], hz_n, hz_n, hz_r (.aload_n 0) 1, hz_r (.iconst 0) 1, hz_m (.invokevirtual 225) 3 [192, 2, 1, 12] [], hz_n, hz_n, hz_r (.ifCond .eq 12) 3, hz_n, hz_n, hz_m (.aload_n 0) 1 [] [true, false], hz_r (.bipush 41) 2],
  [hz_n, hz_m (.invokevirtual 178) 3 [179, 2, 1, 12] [], hz_n, hz_n, hz_r (.ifCond .ne 5) 3, hz_n, hz_n, hz_m (.iconst 0) 1 [] [false, false], hz_r (.ireturn) 1, hz_m (.aload_n 0) 1 [] [true, false], hz_r (.dup) 1, hz_m (.getfield 138) 3 [12, 16] [], hz_n, hz_n, hz_r (.iconst 1) 1, hz_r (.isub) 1],
  [hz_m (.putfield 138) 3 [12, 16] [], hz_n, hz_n, hz_r (.iconst 1) 1, hz_r (.ireturn) 1]]
/-- HeavierServesModel.readsRank(I)Z -/
def hs_k192 : hs_K := [
  [hz_m (.iload_n 1) 1 [] [true, true, false, false], hz_r (.iconst 3) 1, hz_r (.if_icmp .ne 8) 3, hz_n, hz_n, hz_m (.aload_n 0) 1 [] [true, false, false, false], hz_m (.invokevirtual 216) 3 [191, 1, 1, 12] [], hz_n, hz_n, hz_r (.ireturn) 1, hz_m (.aload_n 0) 1 [] [true, true, false, false], hz_r (.iload_n 1) 1, hz_r (.iconst 1) 1, hz_r (.iadd) 1, hz_m (.invokevirtual 225) 3 [192, 2, 1, 12] [], hz_n],
  [hz_n, hz_r (.ifCond .ne 5) 3, hz_n, hz_n, hz_m (.iconst 0) 1 [] [false, false, false, false], hz_r (.ireturn) 1, hz_m (.iconst 1) 1 [] [true, true, false, false], hz_r (.istore_n 2) 1, hz_m (.iload_n 2) 1 [] [true, true, true, false], hz_r (.ifCond .eq 98) 3, hz_n, hz_n, hz_m (.aload_n 0) 1 [] [true, true, false, false], hz_r (.iload_n 1) 1, hz_r (.ifCond .ne 8) 3, hz_n],
  [hz_n, hz_m (.ldc 228) 2 [1, 3] [true, true, false, false], hz_n, hz_r (.goto 15) 3, hz_n, hz_n, hz_m (.iload_n 1) 1 [] [true, true, false, false], hz_r (.iconst 1) 1, hz_r (.if_icmp .ne 8) 3, hz_n, hz_n, hz_m (.ldc 172) 2 [1, 0] [true, true, false, false], hz_n, hz_r (.goto 5) 3, hz_n, hz_n],
  [hz_m (.ldc 230) 2 [1, 4] [true, true, false, false], hz_n, hz_m (.invokevirtual 174) 3 [182, 2, 1, 12] [true, true, false, false], hz_n, hz_n, hz_r (.istore_n 3) 1, hz_r (.iload_n 3) 1, hz_r (.ifCond .ge 5) 3, hz_n, hz_n, hz_m (.iconst 1) 1 [] [false, false, false, false], hz_r (.ireturn) 1, hz_m (.aload_n 0) 1 [] [true, true, false, true], hz_r (.dup) 1, hz_m (.getfield 135) 3 [12, 14] [], hz_n],
  [hz_n, hz_r (.iconst 1) 1, hz_r (.iadd) 1, hz_m (.putfield 135) 3 [12, 14] [], hz_n, hz_n, hz_r (.aload_n 0) 1, hz_r (.iload_n 1) 1, hz_r (.iconst 1) 1, hz_r (.iadd) 1, hz_m (.invokevirtual 225) 3 [192, 2, 1, 12] [], hz_n, hz_n, hz_r (.ifCond .ne 5) 3, hz_n, hz_n],
  [hz_m (.iconst 0) 1 [] [false, false, false, false], hz_r (.ireturn) 1, hz_m (.aload_n 0) 1 [] [true, true, false, true], hz_r (.sipush 2000) 3, hz_n, hz_n, hz_r (.iload_n 3) 1, hz_r (.iadd) 1, hz_r (.iload_n 1) 1, hz_r (.ifCond .ne 7) 3, hz_n, hz_n, hz_m (.iconst 0) 1 [] [true, true, false, false], hz_r (.goto 13) 3, hz_n, hz_n],
  [hz_m (.iload_n 1) 1 [] [true, true, false, false], hz_r (.iconst 1) 1, hz_r (.if_icmp .ne 7) 3, hz_n, hz_n, hz_m (.iconst 3) 1 [] [true, true, false, false], hz_r (.goto 4) 3, hz_n, hz_n, hz_m (.iconst 5) 1 [] [true, true, false, false], hz_m (.iadd) 1 [] [true, true, false, false], hz_m (.invokevirtual 219) 3 [190, 2, 0, 12] [], hz_n, hz_n, hz_r (.iload_n 1) 1, hz_r (.ifCond .le 7) 3],
  [hz_n, hz_n, hz_m (.iconst 1) 1 [] [true, true, false, false], hz_r (.goto 4) 3, hz_n, hz_n, hz_m (.iconst 0) 1 [] [true, true, false, false], hz_m (.istore_n 2) 1 [] [true, true, false, false], hz_r (.goto (-96)) 3, hz_n, hz_n, hz_m (.iconst 1) 1 [] [false, false, false, false], hz_r (.ireturn) 1]]
/-- HeavierServesModel.will()I -/
def hs_k193 : hs_K := [
  [hz_m (.aload_n 0) 1 [] [true, false, false, false, false], hz_r (.iconst 0) 1, hz_m (.putfield 3) 3 [12, 0] [], hz_n, hz_n, hz_r (.aload_n 0) 1, hz_r (.bipush 40) 2, hz_n, hz_m (.invokevirtual 193) 3 [178, 2, 1, 12] [], hz_n, hz_n, hz_r (.istore_n 1) 1, hz_r (.aload_n 0) 1, hz_r (.iconst 0) 1, hz_m (.putfield 213) 3 [12, 25] [], hz_n],
  [hz_n, hz_r (.iload_n 1) 1, hz_r (.ifCond .eq 11) 3, hz_n, hz_n, hz_m (.aload_n 0) 1 [] [true, true, false, false, false], hz_r (.iconst 0) 1, hz_m (.invokevirtual 225) 3 [192, 2, 1, 12] [], hz_n, hz_n, hz_r (.ifCond .eq 7) 3, hz_n, hz_n, hz_m (.iconst 1) 1 [] [true, true, false, false, false], hz_r (.goto 4) 3, hz_n],
  [hz_n, hz_m (.iconst 0) 1 [] [true, true, false, false, false], hz_m (.istore_n 2) 1 [] [true, true, false, false, false], hz_r (.aload_n 0) 1, hz_r (.iload_n 1) 1, hz_r (.bipush 40) 2, hz_n, hz_r (.iload_n 2) 1, hz_m (.invokevirtual 199) 3 [183, 4, 1, 12] [], hz_n, hz_n, hz_r (.istore_n 3) 1, hz_r (.iload_n 3) 1, hz_r (.ifCond .ge 5) 3, hz_n, hz_n],
  [hz_m (.iload_n 3) 1 [] [false, false, false, true, false], hz_r (.ireturn) 1, hz_m (.aload_n 0) 1 [] [true, false, false, false, false], hz_r (.aload_n 0) 1, hz_m (.getfield 213) 3 [12, 25] [], hz_n, hz_n, hz_m (.putfield 232) 3 [12, 24] [], hz_n, hz_n, hz_r (.iconst 0) 1, hz_r (.istore 4) 2, hz_n, hz_m (.iload 4) 2 [] [true, false, false, false, true], hz_n, hz_r (.aload_n 0) 1],
  [hz_m (.getfield 213) 3 [12, 25] [], hz_n, hz_n, hz_r (.if_icmp .ge 23) 3, hz_n, hz_n, hz_m (.aload_n 0) 1 [] [true, false, false, false, true], hz_m (.getfield 65) 3 [12, 22] [], hz_n, hz_n, hz_r (.iload 4) 2, hz_n, hz_r (.aload_n 0) 1, hz_m (.getfield 68) 3 [12, 23] [], hz_n, hz_n],
  [hz_r (.iload 4) 2, hz_n, hz_r (.iaload) 1, hz_r (.iastore) 1, hz_r (.iinc 4 1) 3, hz_n, hz_n, hz_r (.goto (-26)) 3, hz_n, hz_n, hz_m (.iconst 0) 1 [] [false, false, false, false, false], hz_r (.ireturn) 1]]
/-- HeavierServesModel.holding([I)I -/
def hs_k194 : hs_K := [
  [hz_m (.iconst 0) 1 [] [false, true, false, false], hz_r (.istore_n 2) 1, hz_r (.iconst 0) 1, hz_r (.istore_n 3) 1, hz_m (.iload_n 3) 1 [] [false, true, true, true], hz_r (.aload_n 1) 1, hz_r (.bipush 20) 2, hz_n, hz_r (.iaload) 1, hz_r (.if_icmp .ge 29) 3, hz_n, hz_n, hz_m (.iload_n 2) 1 [] [false, true, true, true], hz_r (.aload_n 1) 1, hz_r (.bipush 45) 2, hz_n],
  [hz_r (.iload_n 3) 1, hz_r (.iadd) 1, hz_r (.iaload) 1, hz_r (.ifCond .ge 7) 3, hz_n, hz_n, hz_m (.iconst 1) 1 [] [false, true, false, true], hz_r (.goto 4) 3, hz_n, hz_n, hz_m (.iconst 0) 1 [] [false, true, false, true], hz_m (.invokestatic 150) 3 [170, 1, 1] [false, true, false, true], hz_n, hz_n, hz_r (.iadd) 1, hz_r (.istore_n 2) 1],
  [hz_r (.iinc 3 1) 3, hz_n, hz_n, hz_r (.goto (-31)) 3, hz_n, hz_n, hz_m (.iload_n 2) 1 [] [false, false, true, false], hz_r (.ireturn) 1]]
/-- HeavierServesModel.thingOf([III)I -/
def hs_k195 : hs_K := [
  [hz_m (.aload_n 1) 1 [] [true, true, true, true, false], hz_r (.bipush 17) 2, hz_n, hz_r (.iaload) 1, hz_r (.istore 4) 2, hz_n, hz_r (.iload_n 3) 1, hz_r (.tableswitch 116 0 7 #[45, 47, 51, 58, 72, 89, 103, 109]) 45, hz_n, hz_n, hz_n, hz_n, hz_n, hz_n, hz_n, hz_n],
  [hz_n, hz_n, hz_n, hz_n, hz_n, hz_n, hz_n, hz_n, hz_n, hz_n, hz_n, hz_n, hz_n, hz_n, hz_n, hz_n],
  [hz_n, hz_n, hz_n, hz_n, hz_n, hz_n, hz_n, hz_n, hz_n, hz_n, hz_n, hz_n, hz_n, hz_n, hz_n, hz_n],
  [hz_n, hz_n, hz_n, hz_n, hz_m (.iload_n 2) 1 [] [false, false, true, false, false], hz_r (.ireturn) 1, hz_m (.aload_n 1) 1 [] [false, true, true, false, false], hz_r (.iload_n 2) 1, hz_r (.iaload) 1, hz_r (.ireturn) 1, hz_m (.aload_n 0) 1 [] [true, false, true, false, false], hz_m (.getfield 28) 3 [12, 4] [], hz_n, hz_n, hz_r (.iload_n 2) 1, hz_r (.iaload) 1],
  [hz_r (.ireturn) 1, hz_m (.iload 4) 2 [] [false, true, false, false, true], hz_n, hz_r (.ifCond .ge 7) 3, hz_n, hz_n, hz_m (.iconst 0) 1 [] [false, false, false, false, false], hz_r (.goto 7) 3, hz_n, hz_n, hz_m (.aload_n 1) 1 [] [false, true, false, false, true], hz_r (.iload 4) 2, hz_n, hz_r (.iaload) 1, hz_m (.ireturn) 1 [] [false, false, false, false, false], hz_m (.iload 4) 2 [] [true, false, false, false, true]],
  [hz_n, hz_r (.ifCond .ge 7) 3, hz_n, hz_n, hz_m (.iconst (-1)) 1 [] [false, false, false, false, false], hz_r (.goto 10) 3, hz_n, hz_n, hz_m (.aload_n 0) 1 [] [true, false, false, false, true], hz_m (.getfield 28) 3 [12, 4] [], hz_n, hz_n, hz_r (.iload 4) 2, hz_n, hz_r (.iaload) 1, hz_m (.ireturn) 1 [] [false, false, false, false, false]],
  [hz_m (.iload 4) 2 [] [false, true, false, false, true], hz_n, hz_r (.ifCond .ge 7) 3, hz_n, hz_n, hz_m (.iconst 0) 1 [] [false, false, false, false, false], hz_r (.goto 7) 3, hz_n, hz_n, hz_m (.aload_n 1) 1 [] [false, true, false, false, false], hz_r (.bipush 18) 2, hz_n, hz_r (.iaload) 1, hz_m (.ireturn) 1 [] [false, false, false, false, false], hz_m (.aload_n 0) 1 [] [true, true, false, false, false], hz_r (.aload_n 1) 1],
  [hz_m (.invokevirtual 235) 3 [194, 2, 1, 12] [], hz_n, hz_n, hz_r (.ireturn) 1, hz_m (.aload_n 1) 1 [] [false, true, true, false, false], hz_r (.bipush 8) 2, hz_n, hz_r (.iload_n 2) 1, hz_r (.iadd) 1, hz_r (.iaload) 1, hz_r (.ireturn) 1, hz_m (.aload_n 1) 1 [] [false, true, false, false, false], hz_r (.bipush 19) 2, hz_n, hz_r (.iaload) 1, hz_r (.ireturn) 1]]
/-- HeavierServesModel.worked(III)I -/
def hs_k196 : hs_K := [
  [hz_r (.iload_n 0) 1, hz_r (.tableswitch 93 0 5 #[39, 53, 67, 81, 85, 89]) 39, hz_n, hz_n, hz_n, hz_n, hz_n, hz_n, hz_n, hz_n, hz_n, hz_n, hz_n, hz_n, hz_n, hz_n],
  [hz_n, hz_n, hz_n, hz_n, hz_n, hz_n, hz_n, hz_n, hz_n, hz_n, hz_n, hz_n, hz_n, hz_n, hz_n, hz_n],
  [hz_n, hz_n, hz_n, hz_n, hz_n, hz_n, hz_n, hz_n, hz_m (.iload_n 1) 1 [] [false, true, true], hz_r (.iload_n 2) 1, hz_r (.if_icmp .ge 7) 3, hz_n, hz_n, hz_m (.iconst 1) 1 [] [false, false, false], hz_r (.goto 4) 3, hz_n],
  [hz_n, hz_m (.iconst 0) 1 [] [false, false, false], hz_m (.invokestatic 150) 3 [170, 1, 1] [false, false, false], hz_n, hz_n, hz_r (.ireturn) 1, hz_m (.iload_n 1) 1 [] [false, true, true], hz_r (.iload_n 2) 1, hz_r (.if_icmp .le 7) 3, hz_n, hz_n, hz_m (.iconst 1) 1 [] [false, false, false], hz_r (.goto 4) 3, hz_n, hz_n, hz_m (.iconst 0) 1 [] [false, false, false]],
  [hz_m (.invokestatic 150) 3 [170, 1, 1] [false, false, false], hz_n, hz_n, hz_r (.ireturn) 1, hz_m (.iload_n 1) 1 [] [false, true, true], hz_r (.iload_n 2) 1, hz_r (.if_icmp .ne 7) 3, hz_n, hz_n, hz_m (.iconst 1) 1 [] [false, false, false], hz_r (.goto 4) 3, hz_n, hz_n, hz_m (.iconst 0) 1 [] [false, false, false], hz_m (.invokestatic 150) 3 [170, 1, 1] [false, false, false], hz_n],
  [hz_n, hz_r (.ireturn) 1, hz_m (.iload_n 1) 1 [] [false, true, true], hz_r (.iload_n 2) 1, hz_r (.iadd) 1, hz_r (.ireturn) 1, hz_m (.iload_n 1) 1 [] [false, true, true], hz_r (.iload_n 2) 1, hz_r (.isub) 1, hz_r (.ireturn) 1, hz_m (.iload_n 1) 1 [] [false, true, true], hz_r (.iload_n 2) 1, hz_r (.imul) 1, hz_r (.ireturn) 1, hz_m (.iload_n 2) 1 [] [false, true, true], hz_r (.ifCond .ne 7) 3],
  [hz_n, hz_n, hz_m (.iconst 0) 1 [] [false, false, false], hz_r (.goto 6) 3, hz_n, hz_n, hz_m (.iload_n 1) 1 [] [false, true, true], hz_r (.iload_n 2) 1, hz_r (.idiv) 1, hz_m (.ireturn) 1 [] [false, false, false]]]
/-- HeavierServesModel.willOf([II)I -/
def hs_k197 : hs_K := [
  [hz_m (.aload_n 0) 1 [] [true, true, true, false, false, false], hz_m (.getfield 232) 3 [12, 24] [], hz_n, hz_n, hz_r (.ifCond .ne 5) 3, hz_n, hz_n, hz_m (.iconst 1) 1 [] [false, false, false, false, false, false], hz_r (.ireturn) 1, hz_m (.iconst 0) 1 [] [true, true, true, false, false, false], hz_r (.istore_n 3) 1, hz_r (.iconst 0) 1, hz_r (.istore 4) 2, hz_n, hz_m (.iload 4) 2 [] [true, true, true, true, true, false], hz_n],
  [hz_r (.aload_n 0) 1, hz_m (.getfield 232) 3 [12, 24] [], hz_n, hz_n, hz_r (.if_icmp .ge 125) 3, hz_n, hz_n, hz_m (.aload_n 0) 1 [] [true, true, true, true, true, false], hz_m (.getfield 65) 3 [12, 22] [], hz_n, hz_n, hz_r (.iload 4) 2, hz_n, hz_r (.iaload) 1, hz_r (.istore 5) 2, hz_n],
  [hz_r (.iload 5) 2, hz_n, hz_r (.sipush 3000) 3, hz_n, hz_n, hz_r (.if_icmp .ne 23) 3, hz_n, hz_n, hz_m (.aload_n 0) 1 [] [true, true, true, true, true, false], hz_m (.getfield 71) 3 [12, 26] [], hz_n, hz_n, hz_r (.iload_n 3) 1, hz_r (.iconst 1) 1, hz_r (.isub) 1, hz_r (.aload_n 0) 1],
  [hz_m (.getfield 71) 3 [12, 26] [], hz_n, hz_n, hz_r (.iload_n 3) 1, hz_r (.iconst 1) 1, hz_r (.isub) 1, hz_r (.iaload) 1, hz_r (.ineg) 1, hz_r (.iastore) 1, hz_r (.goto 82) 3, hz_n, hz_n, hz_r (.iload 5) 2, hz_n, hz_r (.sipush 2000) 3, hz_n],
  [hz_n, hz_r (.if_icmp .lt 40) 3, hz_n, hz_n, hz_r (.iinc 3 (-1)) 3, hz_n, hz_n, hz_r (.aload_n 0) 1, hz_m (.getfield 71) 3 [12, 26] [], hz_n, hz_n, hz_r (.iload_n 3) 1, hz_r (.iconst 1) 1, hz_r (.isub) 1, hz_r (.iload 5) 2, hz_n],
  [hz_r (.sipush 2000) 3, hz_n, hz_n, hz_r (.isub) 1, hz_r (.aload_n 0) 1, hz_m (.getfield 71) 3 [12, 26] [], hz_n, hz_n, hz_r (.iload_n 3) 1, hz_r (.iconst 1) 1, hz_r (.isub) 1, hz_r (.iaload) 1, hz_r (.aload_n 0) 1, hz_m (.getfield 71) 3 [12, 26] [], hz_n, hz_n],
  [hz_r (.iload_n 3) 1, hz_r (.iaload) 1, hz_m (.invokestatic 239) 3 [196, 3, 1] [], hz_n, hz_n, hz_r (.iastore) 1, hz_r (.goto 37) 3, hz_n, hz_n, hz_r (.aload_n 0) 1, hz_m (.getfield 71) 3 [12, 26] [], hz_n, hz_n, hz_r (.iload_n 3) 1, hz_r (.iload 5) 2, hz_n],
  [hz_r (.sipush 1000) 3, hz_n, hz_n, hz_r (.if_icmp .lt 18) 3, hz_n, hz_n, hz_r (.aload_n 0) 1, hz_r (.aload_n 1) 1, hz_r (.iload_n 2) 1, hz_r (.iload 5) 2, hz_n, hz_r (.sipush 1000) 3, hz_n, hz_n, hz_r (.isub) 1, hz_m (.invokevirtual 243) 3 [195, 4, 1, 12] []],
  [hz_n, hz_n, hz_r (.goto 5) 3, hz_n, hz_n, hz_r (.iload 5) 2, hz_n, hz_m (.iastore) 1 [] [true, true, true, true, true, false], hz_r (.iinc 3 1) 3, hz_n, hz_n, hz_m (.iinc 4 1) 3 [] [true, true, true, true, true, false], hz_n, hz_n, hz_r (.goto (-128)) 3, hz_n],
  [hz_n, hz_m (.aload_n 0) 1 [] [true, false, false, false, false, false], hz_m (.getfield 71) 3 [12, 26] [], hz_n, hz_n, hz_r (.iconst 0) 1, hz_r (.iaload) 1, hz_r (.ireturn) 1]]
/-- HeavierServesModel.willing([I)I -/
def hs_k198 : hs_K := [
  [hz_m (.iconst 0) 1 [] [true, true, false, false], hz_r (.istore_n 2) 1, hz_r (.iconst 0) 1, hz_r (.istore_n 3) 1, hz_r (.iload_n 3) 1, hz_r (.aload_n 0) 1, hz_m (.getfield 117) 3 [12, 3] [], hz_n, hz_n, hz_r (.if_icmp .ge 39) 3, hz_n, hz_n, hz_r (.iload_n 2) 1, hz_r (.aload_n 1) 1, hz_r (.bipush 16) 2, hz_n],
  [hz_r (.iaload) 1, hz_r (.iload_n 3) 1, hz_m (.invokestatic 128) 3 [169, 2, 1] [], hz_n, hz_n, hz_r (.ifCond .eq 18) 3, hz_n, hz_n, hz_m (.aload_n 0) 1 [] [true, true, false, true], hz_r (.aload_n 1) 1, hz_r (.iload_n 3) 1, hz_m (.invokevirtual 247) 3 [197, 3, 1, 12] [], hz_n, hz_n, hz_r (.ifCond .eq 9) 3, hz_n],
  [hz_n, hz_m (.iconst 1) 1 [] [true, true, false, true], hz_r (.iload_n 3) 1, hz_r (.ishl) 1, hz_r (.goto 4) 3, hz_n, hz_n, hz_m (.iconst 0) 1 [] [true, true, false, true], hz_m (.ior) 1 [] [true, true, false, true], hz_r (.istore_n 2) 1, hz_r (.iinc 3 1) 3, hz_n, hz_n, hz_r (.goto (-41)) 3, hz_n, hz_n],
  [hz_m (.iload_n 2) 1 [] [false, false, true, false], hz_r (.ireturn) 1]]
/-- HeavierServesModel.shows(I)I -/
def hs_k199 : hs_K := [
  [hz_m (.iconst 0) 1 [] [true, true, false], hz_r (.iload_n 1) 1, hz_r (.aload_n 0) 1, hz_m (.getfield 251) 3 [12, 9] [], hz_n, hz_n, hz_r (.iadd) 1, hz_m (.invokestatic 254) 3 [2, 2, 1] [], hz_n, hz_n, hz_r (.istore_n 2) 1, hz_r (.iload_n 2) 1, hz_r (.iload_n 2) 1, hz_r (.aload_n 0) 1, hz_m (.getfield 41) 3 [12, 8] [], hz_n],
  [hz_n, hz_r (.irem) 1, hz_r (.isub) 1, hz_r (.ireturn) 1]]
/-- HeavierServesModel.of(II)I -/
def hs_k200 : hs_K := [
  [hz_r (.aload_n 0) 1, hz_r (.iconst 0) 1, hz_m (.putfield 3) 3 [12, 0] [], hz_n, hz_n, hz_r (.aload_n 0) 1, hz_r (.iload_n 1) 1, hz_m (.invokevirtual 124) 3 [174, 2, 1, 12] [], hz_n, hz_n, hz_r (.ifCond .eq 15) 3, hz_n, hz_n, hz_r (.iload_n 2) 1, hz_r (.i2l) 1, hz_r (.lconst 0) 1],
  [hz_m (.ldc2_w 257) 3 [0, 7] [], hz_n, hz_n, hz_m (.invokestatic 120) 3 [168, 3, 1] [], hz_n, hz_n, hz_r (.ifCond .ne 8) 3, hz_n, hz_n, hz_m (.aload_n 0) 1 [] [true, false, false], hz_m (.invokevirtual 259) 3 [167, 1, 1, 12] [], hz_n, hz_n, hz_r (.ireturn) 1, hz_r (.iload_n 2) 1, hz_r (.tableswitch 108 0 6 #[41, 48, 55, 62, 77, 87, 98]) 41],
  [hz_n, hz_n, hz_n, hz_n, hz_n, hz_n, hz_n, hz_n, hz_n, hz_n, hz_n, hz_n, hz_n, hz_n, hz_n, hz_n],
  [hz_n, hz_n, hz_n, hz_n, hz_n, hz_n, hz_n, hz_n, hz_n, hz_n, hz_n, hz_n, hz_n, hz_n, hz_n, hz_n],
  [hz_n, hz_n, hz_n, hz_n, hz_n, hz_n, hz_n, hz_n, hz_m (.aload_n 0) 1 [] [true, true, false], hz_m (.getfield 44) 3 [12, 10] [], hz_n, hz_n, hz_r (.iload_n 1) 1, hz_r (.iaload) 1, hz_r (.ireturn) 1, hz_m (.aload_n 0) 1 [] [true, true, false]],
  [hz_m (.getfield 28) 3 [12, 4] [], hz_n, hz_n, hz_r (.iload_n 1) 1, hz_r (.iaload) 1, hz_r (.ireturn) 1, hz_m (.aload_n 0) 1 [] [true, true, false], hz_m (.getfield 32) 3 [12, 5] [], hz_n, hz_n, hz_r (.iload_n 1) 1, hz_r (.iaload) 1, hz_r (.ireturn) 1, hz_m (.aload_n 0) 1 [] [true, true, false], hz_m (.getfield 44) 3 [12, 10] [], hz_n],
  [hz_n, hz_r (.bipush 16) 2, hz_n, hz_r (.iaload) 1, hz_r (.iload_n 1) 1, hz_m (.invokestatic 128) 3 [169, 2, 1] [], hz_n, hz_n, hz_m (.invokestatic 150) 3 [170, 1, 1] [], hz_n, hz_n, hz_r (.ireturn) 1, hz_m (.aload_n 0) 1 [] [true, true, false], hz_m (.getfield 44) 3 [12, 10] [], hz_n, hz_n],
  [hz_r (.bipush 8) 2, hz_n, hz_r (.iload_n 1) 1, hz_r (.iadd) 1, hz_r (.iaload) 1, hz_r (.ireturn) 1, hz_m (.aload_n 0) 1 [] [true, true, false], hz_r (.aload_n 0) 1, hz_m (.getfield 44) 3 [12, 10] [], hz_n, hz_n, hz_r (.iload_n 1) 1, hz_r (.iaload) 1, hz_m (.invokevirtual 262) 3 [199, 2, 1, 12] [], hz_n, hz_n],
  [hz_r (.ireturn) 1, hz_m (.aload_n 0) 1 [] [true, true, false], hz_r (.aload_n 0) 1, hz_m (.getfield 44) 3 [12, 10] [], hz_n, hz_n, hz_r (.iload_n 1) 1, hz_m (.invokevirtual 247) 3 [197, 3, 1, 12] [], hz_n, hz_n, hz_r (.ireturn) 1, hz_m (.aload_n 0) 1 [] [true, true, false], hz_m (.getfield 38) 3 [12, 7] [], hz_n, hz_n, hz_r (.iload_n 1) 1],
  [hz_r (.iaload) 1, hz_r (.ireturn) 1]]
