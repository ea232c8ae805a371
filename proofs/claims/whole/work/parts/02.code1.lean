/-! ===== the code rows of the methods, 1 ===== -/
/-- java/lang/Integer.bitCount(I)I -/
def hs_k0 : hs_K := [
  [hz_r (.iload_n 0) 1, hz_r (.iload_n 0) 1, hz_r (.iconst 1) 1, hz_r (.iushr) 1, hz_m (.ldc_w 265) 3 [0, 1431655765] [], hz_n, hz_n, hz_r (.iand) 1, hz_r (.isub) 1, hz_r (.istore_n 0) 1, hz_r (.iload_n 0) 1, hz_m (.ldc_w 266) 3 [0, 858993459] [], hz_n, hz_n, hz_r (.iand) 1, hz_r (.iload_n 0) 1],
  [hz_r (.iconst 2) 1, hz_r (.iushr) 1, hz_m (.ldc_w 266) 3 [0, 858993459] [], hz_n, hz_n, hz_r (.iand) 1, hz_r (.iadd) 1, hz_r (.istore_n 0) 1, hz_r (.iload_n 0) 1, hz_r (.iload_n 0) 1, hz_r (.iconst 4) 1, hz_r (.iushr) 1, hz_r (.iadd) 1, hz_m (.ldc_w 267) 3 [0, 252645135] [], hz_n, hz_n],
  [hz_r (.iand) 1, hz_r (.istore_n 0) 1, hz_r (.iload_n 0) 1, hz_r (.iload_n 0) 1, hz_r (.bipush 8) 2, hz_n, hz_r (.iushr) 1, hz_r (.iadd) 1, hz_r (.istore_n 0) 1, hz_r (.iload_n 0) 1, hz_r (.iload_n 0) 1, hz_r (.bipush 16) 2, hz_n, hz_r (.iushr) 1, hz_r (.iadd) 1, hz_r (.istore_n 0) 1],
  [hz_r (.iload_n 0) 1, hz_r (.bipush 63) 2, hz_n, hz_r (.iand) 1, hz_r (.ireturn) 1]]
/-- java/lang/Math.floorMod(II)I -/
def hs_k1 : hs_K := [
  [hz_m (.iload_n 0) 1 [] [true, true, false], hz_r (.iload_n 1) 1, hz_r (.irem) 1, hz_r (.istore_n 2) 1, hz_r (.iload_n 0) 1, hz_r (.iload_n 1) 1, hz_r (.ixor) 1, hz_r (.ifCond .ge 11) 3, hz_n, hz_n, hz_m (.iload_n 2) 1 [] [false, true, true], hz_r (.ifCond .eq 7) 3, hz_n, hz_n, hz_m (.iload_n 2) 1 [] [false, true, true], hz_r (.iload_n 1) 1],
  [hz_r (.iadd) 1, hz_r (.ireturn) 1, hz_m (.iload_n 2) 1 [] [false, false, true], hz_r (.ireturn) 1]]
/-- java/lang/Math.max(II)I -/
def hs_k2 : hs_K := [
  [hz_r (.iload_n 0) 1, hz_r (.iload_n 1) 1, hz_r (.if_icmp .lt 7) 3, hz_n, hz_n, hz_m (.iload_n 0) 1 [] [true, false], hz_r (.goto 4) 3, hz_n, hz_n, hz_m (.iload_n 1) 1 [] [false, true], hz_m (.ireturn) 1 [] [false, false]]]
/-- java/lang/Math.min(II)I -/
def hs_k3 : hs_K := [
  [hz_r (.iload_n 0) 1, hz_r (.iload_n 1) 1, hz_r (.if_icmp .gt 7) 3, hz_n, hz_n, hz_m (.iload_n 0) 1 [] [true, false], hz_r (.goto 4) 3, hz_n, hz_n, hz_m (.iload_n 1) 1 [] [false, true], hz_m (.ireturn) 1 [] [false, false]]]
/-- HeavierServes$Future.run(II)V -/
def hs_k4 : hs_K := [
  [hz_m (.aload_n 0) 1 [] [true, true, true, false], hz_m (.getfield 18) 3 [0, 5] [], hz_n, hz_n, hz_r (.aload_n 0) 1, hz_m (.getfield 33) 3 [0, 0] [], hz_n, hz_n, hz_m (.invokevirtual 48) 3 [55, 2, 0, 6] [], hz_n, hz_n, hz_r (.iconst 0) 1, hz_r (.istore_n 3) 1, hz_r (.iload_n 3) 1, hz_r (.iload_n 1) 1, hz_r (.if_icmp .ge 22) 3],
  [hz_n, hz_n, hz_r (.aload_n 0) 1, hz_m (.getfield 40) 3 [0, 2] [], hz_n, hz_n, hz_r (.aload_n 0) 1, hz_m (.getfield 18) 3 [0, 5] [], hz_n, hz_n, hz_r (.iconst 0) 1, hz_r (.iload_n 2) 1, hz_m (.invokevirtual 52) 3 [30, 4, 0, 1] [], hz_n, hz_n, hz_r (.iinc 3 1) 3],
  [hz_n, hz_n, hz_r (.goto (-21)) 3, hz_n, hz_n, hz_m (.return_) 1 [] [false, false, false, false]]]
/-- HeavierServes$Future.gain(I)I -/
def hs_k5 : hs_K := [
  [hz_r (.aload_n 0) 1, hz_m (.getfield 18) 3 [0, 5] [], hz_n, hz_n, hz_m (.getfield 58) 3 [6, 8] [], hz_n, hz_n, hz_r (.iload_n 1) 1, hz_r (.iaload) 1, hz_r (.aload_n 0) 1, hz_m (.getfield 33) 3 [0, 0] [], hz_n, hz_n, hz_m (.getfield 58) 3 [6, 8] [], hz_n, hz_n],
  [hz_r (.iload_n 1) 1, hz_r (.iaload) 1, hz_r (.isub) 1, hz_r (.ireturn) 1]]
/-- HeavierServes$Future.gainOfParty(I)I -/
def hs_k6 : hs_K := [
  [hz_m (.iconst 0) 1 [] [true, true, false, false], hz_r (.istore_n 2) 1, hz_r (.iconst 0) 1, hz_r (.istore_n 3) 1, hz_r (.iload_n 3) 1, hz_r (.aload_n 0) 1, hz_m (.getfield 36) 3 [0, 1] [], hz_n, hz_n, hz_m (.getfield 61) 3 [8, 9] [], hz_n, hz_n, hz_r (.if_icmp .ge 30) 3, hz_n, hz_n, hz_r (.aload_n 0) 1],
  [hz_m (.getfield 36) 3 [0, 1] [], hz_n, hz_n, hz_m (.getfield 67) 3 [8, 0] [], hz_n, hz_n, hz_r (.iload_n 3) 1, hz_r (.iaload) 1, hz_r (.iload_n 1) 1, hz_r (.if_icmp .ne 11) 3, hz_n, hz_n, hz_r (.iload_n 2) 1, hz_r (.aload_n 0) 1, hz_r (.iload_n 3) 1, hz_m (.invokevirtual 70) 3 [5, 2, 1, 0] []],
  [hz_n, hz_n, hz_r (.iadd) 1, hz_r (.istore_n 2) 1, hz_r (.iinc 3 1) 3, hz_n, hz_n, hz_r (.goto (-35)) 3, hz_n, hz_n, hz_m (.iload_n 2) 1 [] [false, false, true, false], hz_r (.ireturn) 1]]
/-- HeavierServes$Future.serverThen(I)I -/
def hs_k7 : hs_K := [
  [hz_m (.aload_n 0) 1 [] [true, true, false], hz_r (.iload_n 1) 1, hz_r (.sipush 255) 3, hz_n, hz_n, hz_m (.invokevirtual 74) 3 [4, 3, 0, 0] [], hz_n, hz_n, hz_r (.aload_n 0) 1, hz_m (.getfield 44) 3 [0, 3] [], hz_n, hz_n, hz_r (.iconst 0) 1, hz_m (.putfield 78) 3 [4, 1] [], hz_n, hz_n],
  [hz_r (.iconst 0) 1, hz_r (.istore_n 2) 1, hz_m (.iload_n 2) 1 [] [true, false, true], hz_r (.aload_n 0) 1, hz_m (.getfield 36) 3 [0, 1] [], hz_n, hz_n, hz_m (.getfield 61) 3 [8, 9] [], hz_n, hz_n, hz_r (.if_icmp .ge 22) 3, hz_n, hz_n, hz_m (.aload_n 0) 1 [] [true, false, true], hz_m (.getfield 44) 3 [0, 3] [], hz_n],
  [hz_n, hz_r (.aload_n 0) 1, hz_r (.iload_n 2) 1, hz_m (.invokevirtual 70) 3 [5, 2, 1, 0] [], hz_n, hz_n, hz_r (.i2l) 1, hz_m (.invokevirtual 83) 3 [46, 2, 0, 4] [], hz_n, hz_n, hz_r (.iinc 2 1) 3, hz_n, hz_n, hz_r (.goto (-27)) 3, hz_n, hz_n],
  [hz_m (.aload_n 0) 1 [] [true, false, false], hz_m (.getfield 18) 3 [0, 5] [], hz_n, hz_n, hz_m (.getfield 87) 3 [6, 1] [], hz_n, hz_n, hz_r (.ireturn) 1]]
/-- HeavierServes$Future.weeksTill(I)I -/
def hs_k8 : hs_K := [
  [hz_m (.aload_n 0) 1 [] [true, true, false], hz_m (.getfield 18) 3 [0, 5] [], hz_n, hz_n, hz_r (.aload_n 0) 1, hz_m (.getfield 33) 3 [0, 0] [], hz_n, hz_n, hz_m (.invokevirtual 48) 3 [55, 2, 0, 6] [], hz_n, hz_n, hz_r (.iconst 1) 1, hz_r (.istore_n 2) 1, hz_r (.iload_n 2) 1, hz_r (.bipush 99) 2, hz_n],
  [hz_r (.if_icmp .gt 37) 3, hz_n, hz_n, hz_r (.aload_n 0) 1, hz_m (.getfield 40) 3 [0, 2] [], hz_n, hz_n, hz_r (.aload_n 0) 1, hz_m (.getfield 18) 3 [0, 5] [], hz_n, hz_n, hz_r (.iconst 0) 1, hz_r (.sipush 255) 3, hz_n, hz_n, hz_m (.invokevirtual 52) 3 [30, 4, 0, 1] []],
  [hz_n, hz_n, hz_r (.aload_n 0) 1, hz_m (.getfield 18) 3 [0, 5] [], hz_n, hz_n, hz_m (.getfield 87) 3 [6, 1] [], hz_n, hz_n, hz_r (.iload_n 1) 1, hz_r (.if_icmp .ne 5) 3, hz_n, hz_n, hz_m (.iload_n 2) 1 [] [false, false, true], hz_r (.ireturn) 1, hz_r (.iinc 2 1) 3],
  [hz_n, hz_n, hz_r (.goto (-37)) 3, hz_n, hz_n, hz_m (.bipush (-2)) 2 [] [false, false, false], hz_n, hz_r (.ireturn) 1]]
/-- HeavierServes$Future.reachable(I)I -/
def hs_k9 : hs_K := [
  [hz_m (.iconst 0) 1 [] [true, true, false, false, false, false], hz_r (.istore_n 2) 1, hz_r (.iconst 0) 1, hz_r (.istore_n 3) 1, hz_r (.aload_n 0) 1, hz_m (.getfield 33) 3 [0, 0] [], hz_n, hz_n, hz_m (.getfield 87) 3 [6, 1] [], hz_n, hz_n, hz_r (.ifCond .ge 9) 3, hz_n, hz_n, hz_m (.sipush 256) 3 [] [true, true, true, true, false, false], hz_n],
  [hz_n, hz_r (.goto 12) 3, hz_n, hz_n, hz_m (.iconst 1) 1 [] [true, true, true, true, false, false], hz_r (.aload_n 0) 1, hz_m (.getfield 33) 3 [0, 0] [], hz_n, hz_n, hz_m (.getfield 87) 3 [6, 1] [], hz_n, hz_n, hz_r (.ishl) 1, hz_m (.istore 4) 2 [] [true, true, true, true, false, false], hz_n, hz_r (.aload_n 0) 1],
  [hz_m (.getfield 18) 3 [0, 5] [], hz_n, hz_n, hz_r (.aload_n 0) 1, hz_m (.getfield 33) 3 [0, 0] [], hz_n, hz_n, hz_m (.invokevirtual 48) 3 [55, 2, 0, 6] [], hz_n, hz_n, hz_r (.iconst 0) 1, hz_r (.istore 5) 2, hz_n, hz_r (.iload 5) 2, hz_n, hz_r (.iload_n 1) 1],
  [hz_r (.if_icmp .ge 48) 3, hz_n, hz_n, hz_m (.iload 4) 2 [] [true, true, true, false, true, true], hz_n, hz_r (.aload_n 0) 1, hz_r (.aload_n 0) 1, hz_r (.iload 4) 2, hz_n, hz_m (.invokevirtual 90) 3 [10, 2, 1, 0] [], hz_n, hz_n, hz_m (.invokevirtual 93) 3 [11, 2, 1, 0] [], hz_n, hz_n, hz_r (.ior) 1],
  [hz_r (.istore 4) 2, hz_n, hz_r (.iload 4) 2, hz_n, hz_r (.sipush 255) 3, hz_n, hz_n, hz_r (.iand) 1, hz_r (.istore_n 3) 1, hz_r (.iload_n 2) 1, hz_r (.iload_n 3) 1, hz_r (.ior) 1, hz_r (.istore_n 2) 1, hz_r (.aload_n 0) 1, hz_m (.getfield 40) 3 [0, 2] [], hz_n],
  [hz_n, hz_r (.aload_n 0) 1, hz_m (.getfield 18) 3 [0, 5] [], hz_n, hz_n, hz_r (.iconst 0) 1, hz_r (.iconst 0) 1, hz_m (.invokevirtual 52) 3 [30, 4, 0, 1] [], hz_n, hz_n, hz_r (.iinc 5 1) 3, hz_n, hz_n, hz_r (.goto (-48)) 3, hz_n, hz_n],
  [hz_m (.aload_n 0) 1 [] [true, false, true, true, false, false], hz_m (.getfield 44) 3 [0, 3] [], hz_n, hz_n, hz_r (.iload_n 3) 1, hz_r (.i2l) 1, hz_m (.invokevirtual 96) 3 [45, 2, 0, 4] [], hz_n, hz_n, hz_r (.iload_n 2) 1, hz_r (.ireturn) 1]]
/-- HeavierServes$Future.lightest(I)I -/
def hs_k10 : hs_K := [
  [hz_m (.iload_n 1) 1 [] [true, true, false, false], hz_r (.sipush 256) 3, hz_n, hz_n, hz_r (.iand) 1, hz_r (.ifCond .eq 5) 3, hz_n, hz_n, hz_m (.iconst (-1)) 1 [] [false, false, false, false], hz_r (.ireturn) 1, hz_m (.sipush 1010) 3 [] [true, true, false, false], hz_n, hz_n, hz_r (.istore_n 2) 1, hz_r (.iconst 0) 1, hz_r (.istore_n 3) 1],
  [hz_r (.iload_n 3) 1, hz_r (.aload_n 0) 1, hz_m (.getfield 36) 3 [0, 1] [], hz_n, hz_n, hz_m (.getfield 61) 3 [8, 9] [], hz_n, hz_n, hz_r (.if_icmp .ge 41) 3, hz_n, hz_n, hz_r (.iload_n 1) 1, hz_r (.iload_n 3) 1, hz_r (.ishr) 1, hz_r (.iconst 1) 1, hz_r (.iand) 1],
  [hz_r (.ifCond .eq 27) 3, hz_n, hz_n, hz_r (.iload_n 2) 1, hz_r (.aload_n 0) 1, hz_m (.getfield 40) 3 [0, 2] [], hz_n, hz_n, hz_m (.getfield 99) 3 [1, 2] [], hz_n, hz_n, hz_r (.aload_n 0) 1, hz_m (.getfield 18) 3 [0, 5] [], hz_n, hz_n, hz_m (.getfield 103) 3 [6, 7] []],
  [hz_n, hz_n, hz_r (.iload_n 3) 1, hz_r (.iaload) 1, hz_m (.invokevirtual 106) 3 [50, 2, 1, 5] [], hz_n, hz_n, hz_m (.invokestatic 111) 3 [3, 2, 1] [], hz_n, hz_n, hz_r (.istore_n 2) 1, hz_r (.iinc 3 1) 3, hz_n, hz_n, hz_r (.goto (-46)) 3, hz_n],
  [hz_n, hz_m (.iload_n 2) 1 [] [false, false, true, false], hz_r (.ireturn) 1]]
/-- HeavierServes$Future.heavierThan(I)I -/
def hs_k11 : hs_K := [
  [hz_m (.iconst 0) 1 [] [true, true, false, false], hz_r (.istore_n 2) 1, hz_r (.iconst 0) 1, hz_r (.istore_n 3) 1, hz_r (.iload_n 3) 1, hz_r (.aload_n 0) 1, hz_m (.getfield 36) 3 [0, 1] [], hz_n, hz_n, hz_m (.getfield 61) 3 [8, 9] [], hz_n, hz_n, hz_r (.if_icmp .ge 49) 3, hz_n, hz_n, hz_r (.aload_n 0) 1],
  [hz_m (.getfield 18) 3 [0, 5] [], hz_n, hz_n, hz_r (.iload_n 3) 1, hz_m (.invokevirtual 117) 3 [58, 2, 1, 6] [], hz_n, hz_n, hz_r (.ifCond .eq 32) 3, hz_n, hz_n, hz_r (.aload_n 0) 1, hz_m (.getfield 40) 3 [0, 2] [], hz_n, hz_n, hz_m (.getfield 99) 3 [1, 2] [], hz_n],
  [hz_n, hz_r (.aload_n 0) 1, hz_m (.getfield 18) 3 [0, 5] [], hz_n, hz_n, hz_m (.getfield 103) 3 [6, 7] [], hz_n, hz_n, hz_r (.iload_n 3) 1, hz_r (.iaload) 1, hz_m (.invokevirtual 106) 3 [50, 2, 1, 5] [], hz_n, hz_n, hz_r (.iload_n 1) 1, hz_r (.if_icmp .le 9) 3, hz_n],
  [hz_n, hz_r (.iload_n 2) 1, hz_r (.iconst 1) 1, hz_r (.iload_n 3) 1, hz_r (.ishl) 1, hz_r (.ior) 1, hz_r (.istore_n 2) 1, hz_r (.iinc 3 1) 3, hz_n, hz_n, hz_r (.goto (-54)) 3, hz_n, hz_n, hz_m (.iload_n 2) 1 [] [false, false, true, false], hz_r (.ireturn) 1]]
/-- HeavierServes$Future.bestStanding(II)I -/
def hs_k12 : hs_K := [
  [hz_r (.aload_n 0) 1, hz_r (.iload_n 1) 1, hz_m (.putfield 121) 3 [0, 9] [], hz_n, hz_n, hz_r (.aload_n 0) 1, hz_r (.iload_n 2) 1, hz_m (.putfield 124) 3 [0, 10] [], hz_n, hz_n, hz_r (.aload_n 0) 1, hz_r (.iconst (-1)) 1, hz_m (.putfield 127) 3 [0, 11] [], hz_n, hz_n, hz_r (.aload_n 0) 1],
  [hz_r (.iconst 0) 1, hz_m (.putfield 130) 3 [0, 12] [], hz_n, hz_n, hz_r (.aload_n 0) 1, hz_m (.getfield 13) 3 [0, 4] [], hz_n, hz_n, hz_r (.iconst 0) 1, hz_r (.aaload) 1, hz_r (.aload_n 0) 1, hz_m (.getfield 33) 3 [0, 0] [], hz_n, hz_n, hz_m (.invokevirtual 48) 3 [55, 2, 0, 6] [], hz_n],
  [hz_n, hz_r (.aload_n 0) 1, hz_r (.iconst 0) 1, hz_r (.iconst 0) 1, hz_m (.invokevirtual 133) 3 [13, 3, 0, 0] [], hz_n, hz_n, hz_r (.aload_n 0) 1, hz_m (.getfield 44) 3 [0, 3] [], hz_n, hz_n, hz_r (.aload_n 0) 1, hz_m (.getfield 130) 3 [0, 12] [], hz_n, hz_n, hz_r (.i2l) 1],
  [hz_m (.invokevirtual 96) 3 [45, 2, 0, 4] [], hz_n, hz_n, hz_r (.aload_n 0) 1, hz_m (.getfield 127) 3 [0, 11] [], hz_n, hz_n, hz_r (.ireturn) 1]]
/-- HeavierServes$Future.search(II)V -/
def hs_k13 : hs_K := [
  [hz_m (.iload_n 1) 1 [] [true, true, true, false, false, false], hz_r (.ifCond .lt 17) 3, hz_n, hz_n, hz_m (.iload_n 1) 1 [] [true, true, true, false, false, false], hz_r (.aload_n 0) 1, hz_m (.getfield 124) 3 [0, 10] [], hz_n, hz_n, hz_r (.if_icmp .gt 9) 3, hz_n, hz_n, hz_m (.iload_n 1) 1 [] [true, true, true, false, false, false], hz_r (.bipush 10) 2, hz_n, hz_r (.if_icmp .le 4) 3],
  [hz_n, hz_n, hz_m (.return_) 1 [] [false, false, false, false, false, false], hz_m (.aload_n 0) 1 [] [true, true, true, false, false, false], hz_m (.getfield 13) 3 [0, 4] [], hz_n, hz_n, hz_r (.iload_n 1) 1, hz_r (.aaload) 1, hz_r (.astore_n 3) 1, hz_r (.aload_n 3) 1, hz_m (.getfield 58) 3 [6, 8] [], hz_n, hz_n, hz_r (.aload_n 0) 1, hz_m (.getfield 121) 3 [0, 9] []],
  [hz_n, hz_n, hz_r (.iaload) 1, hz_r (.aload_n 0) 1, hz_m (.getfield 33) 3 [0, 0] [], hz_n, hz_n, hz_m (.getfield 58) 3 [6, 8] [], hz_n, hz_n, hz_r (.aload_n 0) 1, hz_m (.getfield 121) 3 [0, 9] [], hz_n, hz_n, hz_r (.iaload) 1, hz_r (.isub) 1],
  [hz_r (.istore 4) 2, hz_n, hz_r (.iload 4) 2, hz_n, hz_r (.aload_n 0) 1, hz_m (.getfield 124) 3 [0, 10] [], hz_n, hz_n, hz_r (.iadd) 1, hz_r (.iload_n 1) 1, hz_r (.isub) 1, hz_r (.aload_n 0) 1, hz_m (.getfield 127) 3 [0, 11] [], hz_n, hz_n, hz_r (.if_icmp .ge 4) 3],
  [hz_n, hz_n, hz_m (.return_) 1 [] [false, false, false, false, false, false], hz_m (.iload_n 1) 1 [] [true, true, true, true, true, false], hz_r (.aload_n 0) 1, hz_m (.getfield 124) 3 [0, 10] [], hz_n, hz_n, hz_r (.if_icmp .eq 9) 3, hz_n, hz_n, hz_m (.iload_n 1) 1 [] [true, true, true, true, true, false], hz_r (.bipush 10) 2, hz_n, hz_r (.if_icmp .ne 11) 3, hz_n],
  [hz_n, hz_m (.aload_n 0) 1 [] [true, false, true, false, true, false], hz_r (.iload 4) 2, hz_n, hz_r (.iload_n 2) 1, hz_m (.invokevirtual 136) 3 [17, 3, 0, 0] [], hz_n, hz_n, hz_r (.return_) 1, hz_m (.aload_n 0) 1 [] [true, true, true, true, false, false], hz_m (.getfield 13) 3 [0, 4] [], hz_n, hz_n, hz_r (.iload_n 1) 1, hz_r (.iconst 1) 1, hz_r (.iadd) 1],
  [hz_r (.aaload) 1, hz_r (.astore 5) 2, hz_n, hz_r (.aload_n 0) 1, hz_r (.aload_n 3) 1, hz_r (.aload 5) 2, hz_n, hz_r (.iload_n 1) 1, hz_r (.iload_n 2) 1, hz_m (.invokevirtual 139) 3 [14, 5, 0, 0] [], hz_n, hz_n, hz_r (.aload_n 0) 1, hz_r (.aload_n 3) 1, hz_r (.aload 5) 2, hz_n],
  [hz_r (.iload_n 1) 1, hz_r (.iload_n 2) 1, hz_m (.invokevirtual 143) 3 [15, 5, 0, 0] [], hz_n, hz_n, hz_r (.return_) 1]]
/-- HeavierServes$Future.searchStanding(LHeavierServes$State;LHeavierServes$State;II)V -/
def hs_k14 : hs_K := [
  [hz_r (.aload_n 1) 1, hz_m (.getfield 87) 3 [6, 1] [], hz_n, hz_n, hz_r (.aload_n 0) 1, hz_m (.getfield 121) 3 [0, 9] [], hz_n, hz_n, hz_r (.if_icmp .eq 58) 3, hz_n, hz_n, hz_r (.aload_n 0) 1, hz_m (.getfield 40) 3 [0, 2] [], hz_n, hz_n, hz_r (.aload_n 1) 1],
  [hz_r (.iconst 1) 1, hz_r (.aload_n 0) 1, hz_m (.getfield 121) 3 [0, 9] [], hz_n, hz_n, hz_r (.ishl) 1, hz_r (.aload_n 0) 1, hz_m (.invokevirtual 146) 3 [16, 1, 1, 0] [], hz_n, hz_n, hz_m (.invokevirtual 150) 3 [32, 4, 1, 1] [], hz_n, hz_n, hz_r (.aload_n 0) 1, hz_m (.getfield 121) 3 [0, 9] [], hz_n],
  [hz_n, hz_r (.if_icmp .ne 33) 3, hz_n, hz_n, hz_r (.aload_n 2) 1, hz_r (.aload_n 1) 1, hz_m (.invokevirtual 48) 3 [55, 2, 0, 6] [], hz_n, hz_n, hz_r (.aload_n 0) 1, hz_m (.getfield 40) 3 [0, 2] [], hz_n, hz_n, hz_r (.aload_n 2) 1, hz_r (.aload_n 0) 1, hz_m (.getfield 121) 3 [0, 9] []],
  [hz_n, hz_n, hz_m (.invokevirtual 154) 3 [31, 3, 0, 1] [], hz_n, hz_n, hz_r (.aload_n 0) 1, hz_r (.iload_n 3) 1, hz_r (.iconst 1) 1, hz_r (.iadd) 1, hz_r (.iload 4) 2, hz_n, hz_r (.iconst 1) 1, hz_r (.iload_n 3) 1, hz_r (.ishl) 1, hz_r (.ior) 1, hz_m (.invokevirtual 133) 3 [13, 3, 0, 0] []],
  [hz_n, hz_n, hz_m (.return_) 1 [] [false, false, false, false, false]]]
/-- HeavierServes$Future.searchWaiting(LHeavierServes$State;LHeavierServes$State;II)V -/
def hs_k15 : hs_K := [
  [hz_r (.aload_n 2) 1, hz_r (.aload_n 1) 1, hz_m (.invokevirtual 48) 3 [55, 2, 0, 6] [], hz_n, hz_n, hz_r (.aload_n 0) 1, hz_m (.getfield 40) 3 [0, 2] [], hz_n, hz_n, hz_r (.aload_n 2) 1, hz_r (.iconst 0) 1, hz_r (.aload_n 0) 1, hz_m (.invokevirtual 146) 3 [16, 1, 1, 0] [], hz_n, hz_n, hz_m (.invokevirtual 52) 3 [30, 4, 0, 1] []],
  [hz_n, hz_n, hz_r (.aload_n 0) 1, hz_r (.iload_n 3) 1, hz_r (.iconst 1) 1, hz_r (.iadd) 1, hz_r (.iload 4) 2, hz_n, hz_m (.invokevirtual 133) 3 [13, 3, 0, 0] [], hz_n, hz_n, hz_r (.return_) 1]]
/-- HeavierServes$Future.allButChooser()I -/
def hs_k16 : hs_K := [
  [hz_r (.sipush 255) 3, hz_n, hz_n, hz_r (.iconst 1) 1, hz_r (.aload_n 0) 1, hz_m (.getfield 121) 3 [0, 9] [], hz_n, hz_n, hz_r (.ishl) 1, hz_r (.iconst (-1)) 1, hz_r (.ixor) 1, hz_r (.iand) 1, hz_r (.ireturn) 1]]
/-- HeavierServes$Future.judge(II)V -/
def hs_k17 : hs_K := [
  [hz_m (.iload_n 2) 1 [] [true, true, true, false], hz_m (.invokestatic 158) 3 [0, 1, 1] [], hz_n, hz_n, hz_r (.aload_n 0) 1, hz_m (.getfield 130) 3 [0, 12] [], hz_n, hz_n, hz_m (.invokestatic 158) 3 [0, 1, 1] [], hz_n, hz_n, hz_r (.if_icmp .lt 25) 3, hz_n, hz_n, hz_m (.iload_n 2) 1 [] [true, true, true, false], hz_m (.invokestatic 158) 3 [0, 1, 1] []],
  [hz_n, hz_n, hz_r (.aload_n 0) 1, hz_m (.getfield 130) 3 [0, 12] [], hz_n, hz_n, hz_m (.invokestatic 158) 3 [0, 1, 1] [], hz_n, hz_n, hz_r (.if_icmp .ne 15) 3, hz_n, hz_n, hz_m (.iload_n 2) 1 [] [true, true, true, false], hz_r (.aload_n 0) 1, hz_m (.getfield 130) 3 [0, 12] [], hz_n],
  [hz_n, hz_r (.if_icmp .ge 7) 3, hz_n, hz_n, hz_m (.iconst 1) 1 [] [true, true, true, false], hz_r (.goto 4) 3, hz_n, hz_n, hz_m (.iconst 0) 1 [] [true, true, true, false], hz_m (.istore_n 3) 1 [] [true, true, true, false], hz_r (.iload_n 1) 1, hz_r (.aload_n 0) 1, hz_m (.getfield 127) 3 [0, 11] [], hz_n, hz_n, hz_r (.if_icmp .gt 15) 3],
  [hz_n, hz_n, hz_r (.iload_n 1) 1, hz_r (.aload_n 0) 1, hz_m (.getfield 127) 3 [0, 11] [], hz_n, hz_n, hz_r (.if_icmp .ne 17) 3, hz_n, hz_n, hz_r (.iload_n 3) 1, hz_r (.ifCond .eq 13) 3, hz_n, hz_n, hz_m (.aload_n 0) 1 [] [true, true, true, false], hz_r (.iload_n 1) 1],
  [hz_m (.putfield 127) 3 [0, 11] [], hz_n, hz_n, hz_r (.aload_n 0) 1, hz_r (.iload_n 2) 1, hz_m (.putfield 130) 3 [0, 12] [], hz_n, hz_n, hz_m (.return_) 1 [] [false, false, false, false]]]
/-- HeavierServes$Future.rounds(II)I -/
def hs_k18 : hs_K := [
  [hz_m (.iconst 0) 1 [] [true, true, true, false, false, false], hz_r (.istore_n 3) 1, hz_m (.iload_n 3) 1 [] [true, true, true, true, false, false], hz_r (.bipush 8) 2, hz_n, hz_r (.if_icmp .ge 20) 3, hz_n, hz_n, hz_m (.aload_n 0) 1 [] [true, true, true, true, false, false], hz_m (.getfield 22) 3 [0, 6] [], hz_n, hz_n, hz_r (.iload_n 3) 1, hz_r (.iconst 1) 1, hz_r (.iload_n 1) 1, hz_r (.ishl) 1],
  [hz_r (.iconst 1) 1, hz_r (.isub) 1, hz_r (.iastore) 1, hz_r (.iinc 3 1) 3, hz_n, hz_n, hz_r (.goto (-20)) 3, hz_n, hz_n, hz_m (.iconst 0) 1 [] [true, true, true, false, false, false], hz_r (.istore_n 3) 1, hz_r (.iconst 0) 1, hz_r (.istore 4) 2, hz_n, hz_m (.iload 4) 2 [] [true, true, true, true, true, false], hz_n],
  [hz_r (.iload_n 2) 1, hz_r (.if_icmp .ge 27) 3, hz_n, hz_n, hz_m (.iload_n 3) 1 [] [true, true, true, true, true, false], hz_r (.ifCond .ne 23) 3, hz_n, hz_n, hz_m (.aload_n 0) 1 [] [true, true, true, false, true, false], hz_r (.iload_n 1) 1, hz_m (.invokevirtual 163) 3 [19, 2, 1, 0] [], hz_n, hz_n, hz_r (.ifCond .ne 7) 3, hz_n, hz_n],
  [hz_m (.iconst 1) 1 [] [true, true, true, false, true, false], hz_r (.goto 4) 3, hz_n, hz_n, hz_m (.iconst 0) 1 [] [true, true, true, false, true, false], hz_m (.istore_n 3) 1 [] [true, true, true, false, true, false], hz_r (.iinc 4 1) 3, hz_n, hz_n, hz_r (.goto (-27)) 3, hz_n, hz_n, hz_m (.aload_n 0) 1 [] [true, false, false, true, true, false], hz_m (.getfield 44) 3 [0, 3] [], hz_n, hz_n],
  [hz_r (.iload_n 3) 1, hz_r (.ifCond .eq 7) 3, hz_n, hz_n, hz_m (.lconst 1) 1 [] [true, false, false, false, true, false], hz_r (.goto 4) 3, hz_n, hz_n, hz_m (.lconst 0) 1 [] [true, false, false, false, true, false], hz_m (.invokevirtual 96) 3 [45, 2, 0, 4] [true, false, false, false, true, false], hz_n, hz_n, hz_r (.iconst 0) 1, hz_r (.istore 5) 2, hz_n, hz_m (.iload 5) 2 [] [true, false, false, false, true, true]],
  [hz_n, hz_r (.aload_n 0) 1, hz_m (.getfield 36) 3 [0, 1] [], hz_n, hz_n, hz_m (.getfield 61) 3 [8, 9] [], hz_n, hz_n, hz_r (.if_icmp .ge 24) 3, hz_n, hz_n, hz_m (.aload_n 0) 1 [] [true, false, false, false, true, true], hz_m (.getfield 44) 3 [0, 3] [], hz_n, hz_n, hz_r (.aload_n 0) 1],
  [hz_m (.getfield 22) 3 [0, 6] [], hz_n, hz_n, hz_r (.iload 5) 2, hz_n, hz_r (.iaload) 1, hz_r (.i2l) 1, hz_m (.invokevirtual 83) 3 [46, 2, 0, 4] [], hz_n, hz_n, hz_r (.iinc 5 1) 3, hz_n, hz_n, hz_r (.goto (-30)) 3, hz_n, hz_n],
  [hz_m (.iload 4) 2 [] [false, false, false, false, true, false], hz_n, hz_r (.ireturn) 1]]
/-- HeavierServes$Future.someoneTurns(I)Z -/
def hs_k19 : hs_K := [
  [hz_m (.iconst 0) 1 [] [true, true, false, false, false], hz_r (.istore_n 2) 1, hz_r (.iconst 0) 1, hz_r (.istore_n 3) 1, hz_m (.iload_n 3) 1 [] [true, true, true, true, false], hz_r (.aload_n 0) 1, hz_m (.getfield 36) 3 [0, 1] [], hz_n, hz_n, hz_m (.getfield 61) 3 [8, 9] [], hz_n, hz_n, hz_r (.if_icmp .ge 61) 3, hz_n, hz_n, hz_m (.aload_n 0) 1 [] [true, true, true, true, false]],
  [hz_m (.getfield 22) 3 [0, 6] [], hz_n, hz_n, hz_r (.iload_n 3) 1, hz_r (.iaload) 1, hz_r (.istore 4) 2, hz_n, hz_r (.aload_n 0) 1, hz_m (.getfield 33) 3 [0, 0] [], hz_n, hz_n, hz_r (.iload_n 3) 1, hz_m (.invokevirtual 117) 3 [58, 2, 1, 6] [], hz_n, hz_n, hz_r (.ifCond .eq 15) 3],
  [hz_n, hz_n, hz_r (.aload_n 0) 1, hz_m (.getfield 22) 3 [0, 6] [], hz_n, hz_n, hz_r (.iload_n 3) 1, hz_r (.aload_n 0) 1, hz_r (.iload_n 3) 1, hz_r (.iload_n 1) 1, hz_m (.invokevirtual 166) 3 [20, 3, 1, 0] [], hz_n, hz_n, hz_r (.iastore) 1, hz_r (.iload_n 2) 1, hz_r (.ifCond .ne 14) 3],
  [hz_n, hz_n, hz_m (.aload_n 0) 1 [] [true, true, false, true, true], hz_m (.getfield 22) 3 [0, 6] [], hz_n, hz_n, hz_r (.iload_n 3) 1, hz_r (.iaload) 1, hz_r (.iload 4) 2, hz_n, hz_r (.if_icmp .eq 7) 3, hz_n, hz_n, hz_m (.iconst 1) 1 [] [true, true, false, true, false], hz_r (.goto 4) 3, hz_n],
  [hz_n, hz_m (.iconst 0) 1 [] [true, true, false, true, false], hz_m (.istore_n 2) 1 [] [true, true, false, true, false], hz_r (.iinc 3 1) 3, hz_n, hz_n, hz_r (.goto (-66)) 3, hz_n, hz_n, hz_m (.iload_n 2) 1 [] [false, false, true, false, false], hz_r (.ireturn) 1]]
/-- HeavierServes$Future.bestReply(II)I -/
def hs_k20 : hs_K := [
  [hz_m (.aload_n 0) 1 [] [true, true, true, false, false, false, false], hz_m (.getfield 22) 3 [0, 6] [], hz_n, hz_n, hz_r (.iload_n 1) 1, hz_r (.iaload) 1, hz_r (.istore_n 3) 1, hz_r (.aload_n 0) 1, hz_r (.iload_n 1) 1, hz_r (.iload_n 2) 1, hz_m (.invokevirtual 169) 3 [21, 3, 1, 0] [], hz_n, hz_n, hz_r (.istore 4) 2, hz_n, hz_r (.iconst 0) 1],
  [hz_r (.istore 5) 2, hz_n, hz_m (.iload 5) 2 [] [true, true, true, true, true, true, false], hz_n, hz_r (.iconst 1) 1, hz_r (.iload_n 2) 1, hz_r (.ishl) 1, hz_r (.if_icmp .ge 45) 3, hz_n, hz_n, hz_m (.iload 4) 2 [] [true, true, true, true, true, true, false], hz_n, hz_r (.iload_n 2) 1, hz_r (.if_icmp .ge 39) 3, hz_n, hz_n],
  [hz_m (.aload_n 0) 1 [] [true, true, true, true, true, true, false], hz_m (.getfield 22) 3 [0, 6] [], hz_n, hz_n, hz_r (.iload_n 1) 1, hz_r (.iload 5) 2, hz_n, hz_r (.iastore) 1, hz_r (.aload_n 0) 1, hz_r (.iload_n 1) 1, hz_r (.iload_n 2) 1, hz_m (.invokevirtual 169) 3 [21, 3, 1, 0] [], hz_n, hz_n, hz_r (.istore 6) 2, hz_n],
  [hz_r (.iload 6) 2, hz_n, hz_r (.iload 4) 2, hz_n, hz_r (.if_icmp .le 10) 3, hz_n, hz_n, hz_m (.iload 5) 2 [] [true, true, true, false, false, true, true], hz_n, hz_r (.istore_n 3) 1, hz_r (.iload 6) 2, hz_n, hz_r (.istore 4) 2, hz_n, hz_m (.iinc 5 1) 3 [] [true, true, true, true, true, true, false], hz_n],
  [hz_n, hz_r (.goto (-47)) 3, hz_n, hz_n, hz_m (.iload_n 3) 1 [] [false, false, false, true, false, false, false], hz_r (.ireturn) 1]]
/-- HeavierServes$Future.weeksByPlans(II)I -/
def hs_k21 : hs_K := [
  [hz_m (.aload_n 0) 1 [] [true, true, true, false, false, false], hz_m (.getfield 18) 3 [0, 5] [], hz_n, hz_n, hz_r (.aload_n 0) 1, hz_m (.getfield 33) 3 [0, 0] [], hz_n, hz_n, hz_m (.invokevirtual 48) 3 [55, 2, 0, 6] [], hz_n, hz_n, hz_r (.iconst 0) 1, hz_r (.istore_n 3) 1, hz_m (.iload_n 3) 1 [] [true, true, true, true, false, false], hz_r (.iload_n 2) 1, hz_r (.if_icmp .ge 77) 3],
  [hz_n, hz_n, hz_m (.iconst 0) 1 [] [true, true, true, true, false, false], hz_r (.istore 4) 2, hz_n, hz_r (.iconst 0) 1, hz_r (.istore 5) 2, hz_n, hz_r (.iload 5) 2, hz_n, hz_r (.aload_n 0) 1, hz_m (.getfield 36) 3 [0, 1] [], hz_n, hz_n, hz_m (.getfield 61) 3 [8, 9] [], hz_n],
  [hz_n, hz_r (.if_icmp .ge 28) 3, hz_n, hz_n, hz_r (.iload 4) 2, hz_n, hz_r (.aload_n 0) 1, hz_m (.getfield 22) 3 [0, 6] [], hz_n, hz_n, hz_r (.iload 5) 2, hz_n, hz_r (.iaload) 1, hz_r (.iload_n 3) 1, hz_r (.ishr) 1, hz_r (.iconst 1) 1],
  [hz_r (.iand) 1, hz_r (.iload 5) 2, hz_n, hz_r (.ishl) 1, hz_r (.ior) 1, hz_r (.istore 4) 2, hz_n, hz_r (.iinc 5 1) 3, hz_n, hz_n, hz_r (.goto (-34)) 3, hz_n, hz_n, hz_m (.aload_n 0) 1 [] [true, true, true, true, true, false], hz_m (.getfield 40) 3 [0, 2] [], hz_n],
  [hz_n, hz_r (.aload_n 0) 1, hz_m (.getfield 18) 3 [0, 5] [], hz_n, hz_n, hz_r (.aload_n 0) 1, hz_m (.getfield 40) 3 [0, 2] [], hz_n, hz_n, hz_r (.aload_n 0) 1, hz_m (.getfield 18) 3 [0, 5] [], hz_n, hz_n, hz_r (.iload 4) 2, hz_n, hz_r (.iconst 0) 1],
  [hz_m (.invokevirtual 150) 3 [32, 4, 1, 1] [], hz_n, hz_n, hz_m (.invokevirtual 154) 3 [31, 3, 0, 1] [], hz_n, hz_n, hz_r (.iinc 3 1) 3, hz_n, hz_n, hz_r (.goto (-76)) 3, hz_n, hz_n, hz_m (.aload_n 0) 1 [] [true, true, false, false, false, false], hz_r (.iload_n 1) 1, hz_m (.invokevirtual 70) 3 [5, 2, 1, 0] [], hz_n],
  [hz_n, hz_r (.ireturn) 1]]
/-- HeavierServes$Future.strongestParty(I)I -/
def hs_k22 : hs_K := [
  [hz_m (.aload_n 0) 1 [] [true, true, false, false, false, false], hz_r (.iload_n 1) 1, hz_r (.sipush 255) 3, hz_n, hz_n, hz_m (.invokevirtual 74) 3 [4, 3, 0, 0] [], hz_n, hz_n, hz_r (.iconst (-1)) 1, hz_r (.istore_n 2) 1, hz_r (.iconst 0) 1, hz_r (.istore_n 3) 1, hz_r (.aload_n 0) 1, hz_m (.getfield 44) 3 [0, 3] [], hz_n, hz_n],
  [hz_r (.iconst 0) 1, hz_m (.putfield 78) 3 [4, 1] [], hz_n, hz_n, hz_r (.iconst 0) 1, hz_r (.istore 4) 2, hz_n, hz_m (.iload 4) 2 [] [true, false, true, true, true, false], hz_n, hz_r (.iconst 4) 1, hz_r (.if_icmp .ge 39) 3, hz_n, hz_n, hz_m (.aload_n 0) 1 [] [true, false, true, true, true, false], hz_r (.iload 4) 2, hz_n],
  [hz_m (.invokevirtual 172) 3 [6, 2, 1, 0] [], hz_n, hz_n, hz_r (.istore 5) 2, hz_n, hz_r (.aload_n 0) 1, hz_m (.getfield 44) 3 [0, 3] [], hz_n, hz_n, hz_r (.iload 5) 2, hz_n, hz_r (.i2l) 1, hz_m (.invokevirtual 83) 3 [46, 2, 0, 4] [], hz_n, hz_n, hz_r (.iload 5) 2],
  [hz_n, hz_r (.iload_n 3) 1, hz_r (.if_icmp .le 9) 3, hz_n, hz_n, hz_m (.iload 4) 2 [] [true, false, false, false, true, true], hz_n, hz_r (.istore_n 2) 1, hz_r (.iload 5) 2, hz_n, hz_r (.istore_n 3) 1, hz_m (.iinc 4 1) 3 [] [true, false, true, true, true, false], hz_n, hz_n, hz_r (.goto (-39)) 3, hz_n],
  [hz_n, hz_m (.aload_n 0) 1 [] [true, false, true, false, false, false], hz_m (.getfield 44) 3 [0, 3] [], hz_n, hz_n, hz_r (.aload_n 0) 1, hz_m (.invokevirtual 175) 3 [23, 1, 1, 0] [], hz_n, hz_n, hz_r (.i2l) 1, hz_m (.invokevirtual 83) 3 [46, 2, 0, 4] [], hz_n, hz_n, hz_r (.iload_n 2) 1, hz_r (.ireturn) 1]]
/-- HeavierServes$Future.gainers()I -/
def hs_k23 : hs_K := [
  [hz_m (.iconst 0) 1 [] [true, false, false], hz_r (.istore_n 1) 1, hz_r (.iconst 0) 1, hz_r (.istore_n 2) 1, hz_r (.iload_n 2) 1, hz_r (.aload_n 0) 1, hz_m (.getfield 36) 3 [0, 1] [], hz_n, hz_n, hz_m (.getfield 61) 3 [8, 9] [], hz_n, hz_n, hz_r (.if_icmp .ge 23) 3, hz_n, hz_n, hz_r (.aload_n 0) 1],
  [hz_r (.iload_n 2) 1, hz_m (.invokevirtual 70) 3 [5, 2, 1, 0] [], hz_n, hz_n, hz_r (.ifCond .le 9) 3, hz_n, hz_n, hz_r (.iload_n 1) 1, hz_r (.iconst 1) 1, hz_r (.iload_n 2) 1, hz_r (.ishl) 1, hz_r (.ior) 1, hz_r (.istore_n 1) 1, hz_r (.iinc 2 1) 3, hz_n, hz_n],
  [hz_r (.goto (-28)) 3, hz_n, hz_n, hz_m (.iload_n 1) 1 [] [false, true, false], hz_r (.ireturn) 1]]
/-- HeavierServes$Future.takingTurns(II)I -/
def hs_k24 : hs_K := [
  [hz_m (.aload_n 0) 1 [] [true, true, true, false, false, false, false], hz_r (.iload_n 2) 1, hz_r (.sipush 255) 3, hz_n, hz_n, hz_m (.invokevirtual 74) 3 [4, 3, 0, 0] [], hz_n, hz_n, hz_r (.aload_n 0) 1, hz_r (.iload_n 1) 1, hz_m (.invokevirtual 172) 3 [6, 2, 1, 0] [], hz_n, hz_n, hz_r (.istore_n 3) 1, hz_r (.aload_n 0) 1, hz_m (.getfield 36) 3 [0, 1] []],
  [hz_n, hz_n, hz_r (.iload_n 1) 1, hz_m (.invokevirtual 178) 3 [71, 2, 1, 8] [], hz_n, hz_n, hz_r (.istore 4) 2, hz_n, hz_r (.iconst (-1)) 1, hz_r (.istore 5) 2, hz_n, hz_r (.aload_n 0) 1, hz_m (.getfield 18) 3 [0, 5] [], hz_n, hz_n, hz_r (.aload_n 0) 1],
  [hz_m (.getfield 33) 3 [0, 0] [], hz_n, hz_n, hz_m (.invokevirtual 48) 3 [55, 2, 0, 6] [], hz_n, hz_n, hz_r (.iconst 0) 1, hz_r (.istore 6) 2, hz_n, hz_r (.iload 6) 2, hz_n, hz_r (.iload_n 2) 1, hz_r (.if_icmp .ge 58) 3, hz_n, hz_n, hz_r (.iload 4) 2],
  [hz_n, hz_r (.aload_n 0) 1, hz_m (.getfield 33) 3 [0, 0] [], hz_n, hz_n, hz_m (.getfield 181) 3 [6, 3] [], hz_n, hz_n, hz_r (.iand) 1, hz_r (.iload 5) 2, hz_n, hz_m (.invokestatic 184) 3 [25, 2, 1] [], hz_n, hz_n, hz_r (.istore 5) 2, hz_n],
  [hz_r (.aload_n 0) 1, hz_m (.getfield 40) 3 [0, 2] [], hz_n, hz_n, hz_r (.aload_n 0) 1, hz_m (.getfield 18) 3 [0, 5] [], hz_n, hz_n, hz_r (.iload 5) 2, hz_n, hz_r (.ifCond .ge 7) 3, hz_n, hz_n, hz_r (.iconst 0) 1, hz_r (.goto 7) 3, hz_n],
  [hz_n, hz_r (.iconst 1) 1, hz_r (.iload 5) 2, hz_n, hz_r (.ishl) 1, hz_r (.sipush 255) 3, hz_n, hz_n, hz_r (.iload 4) 2, hz_n, hz_r (.iconst (-1)) 1, hz_r (.ixor) 1, hz_r (.iand) 1, hz_m (.invokevirtual 52) 3 [30, 4, 0, 1] [], hz_n, hz_n],
  [hz_r (.iinc 6 1) 3, hz_n, hz_n, hz_r (.goto (-58)) 3, hz_n, hz_n, hz_m (.aload_n 0) 1 [] [true, true, false, true, false, false, false], hz_r (.iload_n 1) 1, hz_m (.invokevirtual 172) 3 [6, 2, 1, 0] [], hz_n, hz_n, hz_r (.istore 6) 2, hz_n, hz_r (.aload_n 0) 1, hz_m (.getfield 44) 3 [0, 3] [], hz_n],
  [hz_n, hz_r (.iload 6) 2, hz_n, hz_r (.iload_n 3) 1, hz_r (.isub) 1, hz_r (.i2l) 1, hz_m (.invokevirtual 96) 3 [45, 2, 0, 4] [], hz_n, hz_n, hz_r (.iload 6) 2, hz_n, hz_r (.ireturn) 1]]
/-- HeavierServes$Future.nextOf(II)I -/
def hs_k25 : hs_K := [
  [hz_m (.iconst 1) 1 [] [true, true, false, false], hz_r (.istore_n 2) 1, hz_m (.iload_n 2) 1 [] [true, true, true, false], hz_r (.bipush 8) 2, hz_n, hz_r (.if_icmp .gt 26) 3, hz_n, hz_n, hz_m (.iload_n 1) 1 [] [true, true, true, false], hz_r (.iload_n 2) 1, hz_r (.iadd) 1, hz_r (.bipush 8) 2, hz_n, hz_r (.irem) 1, hz_r (.istore_n 3) 1, hz_r (.iload_n 0) 1],
  [hz_r (.iload_n 3) 1, hz_r (.ishr) 1, hz_r (.iconst 1) 1, hz_r (.iand) 1, hz_r (.ifCond .eq 5) 3, hz_n, hz_n, hz_m (.iload_n 3) 1 [] [false, false, false, true], hz_r (.ireturn) 1, hz_m (.iinc 2 1) 3 [] [true, true, true, false], hz_n, hz_n, hz_r (.goto (-26)) 3, hz_n, hz_n, hz_m (.iconst (-1)) 1 [] [false, false, false, false]],
  [hz_r (.ireturn) 1]]
/-- HeavierServes$Future.foolsWorth(II)I -/
def hs_k26 : hs_K := [
  [hz_m (.aload_n 0) 1 [] [true, true, true, false, false, false], hz_m (.getfield 36) 3 [0, 1] [], hz_n, hz_n, hz_m (.getfield 67) 3 [8, 0] [], hz_n, hz_n, hz_r (.iload_n 1) 1, hz_r (.iaload) 1, hz_r (.istore_n 3) 1, hz_r (.aload_n 0) 1, hz_r (.iload_n 2) 1, hz_r (.sipush 255) 3, hz_n, hz_n, hz_m (.invokevirtual 74) 3 [4, 3, 0, 0] []],
  [hz_n, hz_n, hz_r (.aload_n 0) 1, hz_r (.iload_n 3) 1, hz_m (.invokevirtual 172) 3 [6, 2, 1, 0] [], hz_n, hz_n, hz_r (.istore 4) 2, hz_n, hz_r (.aload_n 0) 1, hz_r (.iload_n 2) 1, hz_r (.sipush 255) 3, hz_n, hz_n, hz_r (.iconst 1) 1, hz_r (.iload_n 1) 1],
  [hz_r (.ishl) 1, hz_r (.iconst (-1)) 1, hz_r (.ixor) 1, hz_r (.iand) 1, hz_m (.invokevirtual 74) 3 [4, 3, 0, 0] [], hz_n, hz_n, hz_r (.aload_n 0) 1, hz_r (.iload_n 3) 1, hz_m (.invokevirtual 172) 3 [6, 2, 1, 0] [], hz_n, hz_n, hz_r (.istore 5) 2, hz_n, hz_r (.aload_n 0) 1, hz_m (.getfield 44) 3 [0, 3] []],
  [hz_n, hz_n, hz_r (.iload 4) 2, hz_n, hz_r (.i2l) 1, hz_m (.invokevirtual 96) 3 [45, 2, 0, 4] [], hz_n, hz_n, hz_r (.aload_n 0) 1, hz_m (.getfield 44) 3 [0, 3] [], hz_n, hz_n, hz_r (.iload 5) 2, hz_n, hz_r (.i2l) 1, hz_m (.invokevirtual 83) 3 [46, 2, 0, 4] []],
  [hz_n, hz_n, hz_r (.iload 4) 2, hz_n, hz_r (.iload 5) 2, hz_n, hz_r (.isub) 1, hz_r (.ireturn) 1]]
/-- HeavierServes$Future.tellChance(II)V -/
def hs_k27 : hs_K := [
  [hz_r (.iload_n 2) 1, hz_r (.ifCond .ne 28) 3, hz_n, hz_n, hz_m (.aload_n 0) 1 [] [true, true, false], hz_m (.getfield 44) 3 [0, 3] [], hz_n, hz_n, hz_r (.aload_n 0) 1, hz_m (.getfield 33) 3 [0, 0] [], hz_n, hz_n, hz_m (.getfield 87) 3 [6, 1] [], hz_n, hz_n, hz_r (.iload_n 1) 1],
  [hz_r (.if_icmp .ne 7) 3, hz_n, hz_n, hz_m (.lconst 1) 1 [] [false, false, false], hz_r (.goto 4) 3, hz_n, hz_n, hz_m (.lconst 0) 1 [] [false, false, false], hz_m (.lconst 1) 1 [] [false, false, false], hz_m (.invokevirtual 187) 3 [48, 3, 0, 4] [], hz_n, hz_n, hz_r (.return_) 1, hz_r (.aload_n 0) 1, hz_m (.getfield 40) 3 [0, 2] [], hz_n],
  [hz_n, hz_r (.aload_n 0) 1, hz_m (.getfield 33) 3 [0, 0] [], hz_n, hz_n, hz_r (.aload_n 0) 1, hz_m (.getfield 26) 3 [0, 7] [], hz_n, hz_n, hz_m (.invokevirtual 191) 3 [34, 3, 0, 1] [], hz_n, hz_n, hz_r (.iload_n 2) 1, hz_r (.iconst 1) 1, hz_r (.if_icmp .ne 24) 3, hz_n],
  [hz_n, hz_m (.aload_n 0) 1 [] [true, true, false], hz_m (.getfield 44) 3 [0, 3] [], hz_n, hz_n, hz_r (.aload_n 0) 1, hz_m (.getfield 26) 3 [0, 7] [], hz_n, hz_n, hz_r (.iconst 1) 1, hz_r (.iload_n 1) 1, hz_r (.iadd) 1, hz_r (.laload) 1, hz_m (.ldc2_w 194) 3 [0, 100000000] [], hz_n, hz_n],
  [hz_m (.invokevirtual 187) 3 [48, 3, 0, 4] [], hz_n, hz_n, hz_r (.goto 18) 3, hz_n, hz_n, hz_m (.aload_n 0) 1 [] [true, true, false], hz_m (.getfield 44) 3 [0, 3] [], hz_n, hz_n, hz_r (.aload_n 0) 1, hz_r (.iload_n 1) 1, hz_m (.invokevirtual 196) 3 [28, 2, 2, 0] [], hz_n, hz_n, hz_m (.ldc2_w 200) 3 [0, 10000000000000000] []],
  [hz_n, hz_n, hz_m (.invokevirtual 187) 3 [48, 3, 0, 4] [], hz_n, hz_n, hz_m (.return_) 1 [] [false, false, false]]]
/-- HeavierServes$Future.chanceInTwo(I)J -/
def hs_k28 : hs_K := [
  [hz_m (.lconst 0) 1 [] [true, true, false, false, false], hz_r (.lstore_n 2) 1, hz_r (.iconst 0) 1, hz_r (.istore 4) 2, hz_n, hz_m (.iload 4) 2 [] [true, true, true, false, true], hz_n, hz_r (.aload_n 0) 1, hz_m (.getfield 36) 3 [0, 1] [], hz_n, hz_n, hz_m (.getfield 61) 3 [8, 9] [], hz_n, hz_n, hz_r (.if_icmp .gt 99) 3, hz_n],
  [hz_n, hz_m (.aload_n 0) 1 [] [true, true, true, false, true], hz_m (.getfield 26) 3 [0, 7] [], hz_n, hz_n, hz_r (.iload 4) 2, hz_n, hz_r (.laload) 1, hz_r (.lconst 0) 1, hz_r (.lcmp) 1, hz_r (.ifCond .le 81) 3, hz_n, hz_n, hz_m (.aload_n 0) 1 [] [true, true, true, false, true], hz_m (.getfield 18) 3 [0, 5] [], hz_n],
  [hz_n, hz_r (.aload_n 0) 1, hz_m (.getfield 33) 3 [0, 0] [], hz_n, hz_n, hz_m (.invokevirtual 48) 3 [55, 2, 0, 6] [], hz_n, hz_n, hz_r (.aload_n 0) 1, hz_m (.getfield 40) 3 [0, 2] [], hz_n, hz_n, hz_r (.aload_n 0) 1, hz_m (.getfield 18) 3 [0, 5] [], hz_n, hz_n],
  [hz_r (.iload 4) 2, hz_n, hz_r (.iconst 1) 1, hz_r (.isub) 1, hz_r (.aload_n 0) 1, hz_m (.getfield 33) 3 [0, 0] [], hz_n, hz_n, hz_m (.getfield 87) 3 [6, 1] [], hz_n, hz_n, hz_r (.if_icmp .ne 7) 3, hz_n, hz_n, hz_m (.iconst (-1)) 1 [] [true, true, true, false, true], hz_r (.goto 7) 3],
  [hz_n, hz_n, hz_m (.iload 4) 2 [] [true, true, true, false, true], hz_n, hz_r (.iconst 1) 1, hz_r (.isub) 1, hz_m (.invokevirtual 154) 3 [31, 3, 0, 1] [true, true, true, false, true], hz_n, hz_n, hz_r (.aload_n 0) 1, hz_m (.getfield 40) 3 [0, 2] [], hz_n, hz_n, hz_r (.aload_n 0) 1, hz_m (.getfield 18) 3 [0, 5] [], hz_n],
  [hz_n, hz_r (.aload_n 0) 1, hz_m (.getfield 30) 3 [0, 8] [], hz_n, hz_n, hz_m (.invokevirtual 191) 3 [34, 3, 0, 1] [], hz_n, hz_n, hz_r (.lload_n 2) 1, hz_r (.aload_n 0) 1, hz_m (.getfield 26) 3 [0, 7] [], hz_n, hz_n, hz_r (.iload 4) 2, hz_n, hz_r (.laload) 1],
  [hz_r (.aload_n 0) 1, hz_m (.getfield 30) 3 [0, 8] [], hz_n, hz_n, hz_r (.iconst 1) 1, hz_r (.iload_n 1) 1, hz_r (.iadd) 1, hz_r (.laload) 1, hz_r (.lmul) 1, hz_r (.ladd) 1, hz_r (.lstore_n 2) 1, hz_m (.iinc 4 1) 3 [] [true, true, true, false, true], hz_n, hz_n, hz_r (.goto (-105)) 3, hz_n],
  [hz_n, hz_m (.lload_n 2) 1 [] [false, false, true, false, false], hz_r (.lreturn) 1]]
/-- HeavierServes$Future.likeliest()I -/
def hs_k29 : hs_K := [
  [hz_m (.aload_n 0) 1 [] [true, false, false], hz_m (.getfield 40) 3 [0, 2] [], hz_n, hz_n, hz_r (.aload_n 0) 1, hz_m (.getfield 33) 3 [0, 0] [], hz_n, hz_n, hz_r (.aload_n 0) 1, hz_m (.getfield 26) 3 [0, 7] [], hz_n, hz_n, hz_m (.invokevirtual 191) 3 [34, 3, 0, 1] [], hz_n, hz_n, hz_r (.iconst 0) 1],
  [hz_r (.istore_n 1) 1, hz_r (.iconst 1) 1, hz_r (.istore_n 2) 1, hz_r (.iload_n 2) 1, hz_r (.aload_n 0) 1, hz_m (.getfield 36) 3 [0, 1] [], hz_n, hz_n, hz_m (.getfield 61) 3 [8, 9] [], hz_n, hz_n, hz_r (.if_icmp .gt 27) 3, hz_n, hz_n, hz_r (.aload_n 0) 1, hz_m (.getfield 26) 3 [0, 7] []],
  [hz_n, hz_n, hz_r (.iload_n 2) 1, hz_r (.laload) 1, hz_r (.aload_n 0) 1, hz_m (.getfield 26) 3 [0, 7] [], hz_n, hz_n, hz_r (.iload_n 1) 1, hz_r (.laload) 1, hz_r (.lcmp) 1, hz_r (.ifCond .le 5) 3, hz_n, hz_n, hz_m (.iload_n 2) 1 [] [true, false, true], hz_r (.istore_n 1) 1],
  [hz_r (.iinc 2 1) 3, hz_n, hz_n, hz_r (.goto (-32)) 3, hz_n, hz_n, hz_m (.aload_n 0) 1 [] [true, true, false], hz_m (.getfield 44) 3 [0, 3] [], hz_n, hz_n, hz_r (.aload_n 0) 1, hz_m (.getfield 26) 3 [0, 7] [], hz_n, hz_n, hz_r (.iload_n 1) 1, hz_r (.laload) 1],
  [hz_m (.ldc2_w 194) 3 [0, 100000000] [], hz_n, hz_n, hz_m (.invokevirtual 187) 3 [48, 3, 0, 4] [], hz_n, hz_n, hz_r (.iload_n 1) 1, hz_r (.iconst 1) 1, hz_r (.isub) 1, hz_r (.ireturn) 1]]
/-- HeavierServes$Office.pass(LHeavierServes$State;II)V -/
def hs_k30 : hs_K := [
  [hz_r (.aload_n 0) 1, hz_r (.aload_n 1) 1, hz_r (.aload_n 0) 1, hz_r (.aload_n 1) 1, hz_r (.iload_n 2) 1, hz_r (.iload_n 3) 1, hz_m (.invokevirtual 23) 3 [32, 4, 1, 1] [], hz_n, hz_n, hz_m (.invokevirtual 27) 3 [31, 3, 0, 1] [], hz_n, hz_n, hz_r (.return_) 1]]
/-- HeavierServes$Office.finish(LHeavierServes$State;I)V -/
def hs_k31 : hs_K := [
  [hz_r (.aload_n 1) 1, hz_r (.iload_n 2) 1, hz_m (.invokevirtual 31) 3 [63, 2, 0, 6] [], hz_n, hz_n, hz_r (.aload_n 0) 1, hz_m (.getfield 9) 3 [1, 0] [], hz_n, hz_n, hz_r (.aload_n 1) 1, hz_m (.invokevirtual 37) 3 [74, 2, 0, 8] [], hz_n, hz_n, hz_r (.aload_n 1) 1, hz_r (.dup) 1, hz_m (.getfield 43) 3 [6, 0] []],
  [hz_n, hz_n, hz_r (.iconst 1) 1, hz_r (.iadd) 1, hz_m (.putfield 43) 3 [6, 0] [], hz_n, hz_n, hz_r (.return_) 1]]
/-- HeavierServes$Office.winner(LHeavierServes$State;II)I -/
def hs_k32 : hs_K := [
  [hz_m (.iconst (-1)) 1 [] [true, true, true, true, false, false, false, false], hz_r (.istore 4) 2, hz_n, hz_r (.aload_n 0) 1, hz_r (.aload_n 1) 1, hz_m (.invokevirtual 47) 3 [33, 2, 1, 1] [], hz_n, hz_n, hz_r (.istore 5) 2, hz_n, hz_r (.iconst 0) 1, hz_r (.istore 6) 2, hz_n, hz_m (.iload 6) 2 [] [true, true, true, true, true, true, true, false], hz_n, hz_r (.aload_n 0) 1],
  [hz_m (.getfield 9) 3 [1, 0] [], hz_n, hz_n, hz_m (.getfield 51) 3 [8, 9] [], hz_n, hz_n, hz_r (.if_icmp .ge 99) 3, hz_n, hz_n, hz_m (.iload 6) 2 [] [true, true, true, true, true, true, true, false], hz_n, hz_r (.aload_n 1) 1, hz_m (.getfield 54) 3 [6, 1] [], hz_n, hz_n, hz_r (.if_icmp .eq 84) 3],
  [hz_n, hz_n, hz_m (.aload_n 1) 1 [] [true, true, true, true, true, true, true, false], hz_r (.iload 6) 2, hz_n, hz_m (.invokevirtual 57) 3 [58, 2, 1, 6] [], hz_n, hz_n, hz_r (.ifCond .ne 6) 3, hz_n, hz_n, hz_m (.goto 72) 3 [] [true, true, true, true, true, true, true, false], hz_n, hz_n, hz_m (.aload_n 0) 1 [] [true, true, true, true, true, true, true, false], hz_m (.getfield 19) 3 [1, 2] []],
  [hz_n, hz_n, hz_r (.aload_n 1) 1, hz_m (.getfield 61) 3 [6, 7] [], hz_n, hz_n, hz_r (.iload 6) 2, hz_n, hz_r (.iaload) 1, hz_m (.invokevirtual 65) 3 [50, 2, 1, 5] [], hz_n, hz_n, hz_r (.istore 7) 2, hz_n, hz_r (.iload 7) 2, hz_n],
  [hz_r (.iload 5) 2, hz_n, hz_r (.if_icmp .gt 6) 3, hz_n, hz_n, hz_m (.goto 46) 3 [] [true, true, true, true, true, true, true, false], hz_n, hz_n, hz_r (.iload_n 2) 1, hz_r (.iload 6) 2, hz_n, hz_r (.ishr) 1, hz_r (.iconst 1) 1, hz_r (.iand) 1, hz_r (.ifCond .ne 29) 3, hz_n],
  [hz_n, hz_r (.iload_n 3) 1, hz_r (.iload 6) 2, hz_n, hz_r (.ishr) 1, hz_r (.iconst 1) 1, hz_r (.iand) 1, hz_r (.ifCond .eq 28) 3, hz_n, hz_n, hz_r (.aload_n 0) 1, hz_m (.getfield 15) 3 [1, 1] [], hz_n, hz_n, hz_r (.aload_n 1) 1, hz_r (.aload_n 0) 1],
  [hz_m (.getfield 9) 3 [1, 0] [], hz_n, hz_n, hz_r (.iload 6) 2, hz_n, hz_m (.invokevirtual 71) 3 [105, 4, 1, 10] [], hz_n, hz_n, hz_r (.ifCond .eq 11) 3, hz_n, hz_n, hz_m (.iload 6) 2 [] [true, true, true, true, false, false, true, true], hz_n, hz_r (.istore 4) 2, hz_n, hz_r (.iload 7) 2],
  [hz_n, hz_r (.istore 5) 2, hz_n, hz_m (.iinc 6 1) 3 [] [true, true, true, true, true, true, true, false], hz_n, hz_n, hz_r (.goto (-105)) 3, hz_n, hz_n, hz_m (.iload 4) 2 [] [false, false, false, false, true, false, false, false], hz_n, hz_r (.ireturn) 1]]
/-- HeavierServes$Office.shownOfServer(LHeavierServes$State;)I -/
def hs_k33 : hs_K := [
  [hz_r (.aload_n 1) 1, hz_m (.getfield 54) 3 [6, 1] [], hz_n, hz_n, hz_r (.ifCond .ge 7) 3, hz_n, hz_n, hz_m (.iconst (-1)) 1 [] [false, false], hz_r (.goto 19) 3, hz_n, hz_n, hz_r (.aload_n 0) 1, hz_m (.getfield 19) 3 [1, 2] [], hz_n, hz_n, hz_r (.aload_n 1) 1],
  [hz_m (.getfield 61) 3 [6, 7] [], hz_n, hz_n, hz_r (.aload_n 1) 1, hz_m (.getfield 54) 3 [6, 1] [], hz_n, hz_n, hz_r (.iaload) 1, hz_m (.invokevirtual 65) 3 [50, 2, 1, 5] [], hz_n, hz_n, hz_m (.ireturn) 1 [] [false, false]]]
/-- HeavierServes$Office.shares(LHeavierServes$State;[J)V -/
def hs_k34 : hs_K := [
  [hz_m (.aload_n 0) 1 [] [true, true, true, false, false, false, false, false, false], hz_r (.aload_n 1) 1, hz_m (.invokevirtual 77) 3 [35, 2, 1, 1] [], hz_n, hz_n, hz_r (.istore_n 3) 1, hz_r (.iconst 0) 1, hz_r (.istore 4) 2, hz_n, hz_m (.iload 4) 2 [] [true, true, true, true, true, false, false, false, false], hz_n, hz_r (.aload_n 2) 1, hz_r (.arraylength) 1, hz_r (.if_icmp .ge 14) 3, hz_n, hz_n],
  [hz_m (.aload_n 2) 1 [] [true, true, true, true, true, false, false, false, false], hz_r (.iload 4) 2, hz_n, hz_r (.lconst 0) 1, hz_r (.lastore) 1, hz_r (.iinc 4 1) 3, hz_n, hz_n, hz_r (.goto (-15)) 3, hz_n, hz_n, hz_m (.ldc2_w 80) 3 [0, 100000000] [true, true, true, true, false, false, false, false, false], hz_n, hz_n, hz_r (.lstore 4) 2, hz_n],
  [hz_r (.iconst 0) 1, hz_r (.istore 6) 2, hz_n, hz_m (.iload 6) 2 [] [true, true, true, true, true, false, true, false, false], hz_n, hz_r (.bipush 8) 2, hz_n, hz_r (.if_icmp .ge 73) 3, hz_n, hz_n, hz_m (.iload_n 3) 1 [] [true, true, true, true, true, false, true, false, false], hz_r (.ifCond .eq 69) 3, hz_n, hz_n, hz_m (.aload_n 0) 1 [] [true, true, true, true, true, false, true, false, false], hz_r (.aload_n 1) 1],
  [hz_r (.iload_n 3) 1, hz_m (.invokevirtual 82) 3 [36, 3, 1, 1] [], hz_n, hz_n, hz_r (.istore 7) 2, hz_n, hz_r (.aload_n 0) 1, hz_m (.getfield 9) 3 [1, 0] [], hz_n, hz_n, hz_m (.getfield 86) 3 [8, 1] [], hz_n, hz_n, hz_r (.iload 7) 2, hz_n, hz_r (.iaload) 1],
  [hz_r (.istore 8) 2, hz_n, hz_r (.aload_n 2) 1, hz_r (.iconst 1) 1, hz_r (.iload 7) 2, hz_n, hz_r (.iadd) 1, hz_r (.lload 4) 2, hz_n, hz_m (.ldc2_w 89) 3 [0, 10] [], hz_n, hz_n, hz_r (.ldiv) 1, hz_r (.bipush 10) 2, hz_n, hz_r (.iload 8) 2],
  [hz_n, hz_r (.isub) 1, hz_r (.i2l) 1, hz_r (.lmul) 1, hz_r (.lastore) 1, hz_r (.lload 4) 2, hz_n, hz_m (.ldc2_w 89) 3 [0, 10] [], hz_n, hz_n, hz_r (.ldiv) 1, hz_r (.iload 8) 2, hz_n, hz_r (.i2l) 1, hz_r (.lmul) 1, hz_r (.lstore 4) 2],
  [hz_n, hz_r (.iload_n 3) 1, hz_r (.iconst 1) 1, hz_r (.iload 7) 2, hz_n, hz_r (.ishl) 1, hz_r (.iconst (-1)) 1, hz_r (.ixor) 1, hz_r (.iand) 1, hz_r (.istore_n 3) 1, hz_r (.iinc 6 1) 3, hz_n, hz_n, hz_r (.goto (-74)) 3, hz_n, hz_n],
  [hz_m (.aload_n 2) 1 [] [false, true, true, false, true, false, false, false, false], hz_r (.iconst 1) 1, hz_r (.aload_n 1) 1, hz_m (.getfield 54) 3 [6, 1] [], hz_n, hz_n, hz_r (.iadd) 1, hz_r (.dup2) 1, hz_r (.laload) 1, hz_r (.lload 4) 2, hz_n, hz_r (.ladd) 1, hz_r (.lastore) 1, hz_r (.return_) 1]]
/-- HeavierServes$Office.heavierWho(LHeavierServes$State;)I -/
def hs_k35 : hs_K := [
  [hz_m (.iconst 0) 1 [] [true, true, false, false, false], hz_r (.istore_n 2) 1, hz_r (.aload_n 0) 1, hz_r (.aload_n 1) 1, hz_m (.invokevirtual 47) 3 [33, 2, 1, 1] [], hz_n, hz_n, hz_r (.istore_n 3) 1, hz_r (.iconst 0) 1, hz_r (.istore 4) 2, hz_n, hz_r (.iload 4) 2, hz_n, hz_r (.aload_n 0) 1, hz_m (.getfield 9) 3 [1, 0] [], hz_n],
  [hz_n, hz_m (.getfield 51) 3 [8, 9] [], hz_n, hz_n, hz_r (.if_icmp .ge 69) 3, hz_n, hz_n, hz_r (.iload 4) 2, hz_n, hz_r (.aload_n 1) 1, hz_m (.getfield 54) 3 [6, 1] [], hz_n, hz_n, hz_r (.if_icmp .eq 54) 3, hz_n, hz_n],
  [hz_r (.aload_n 1) 1, hz_r (.iload 4) 2, hz_n, hz_m (.invokevirtual 57) 3 [58, 2, 1, 6] [], hz_n, hz_n, hz_r (.ifCond .eq 45) 3, hz_n, hz_n, hz_r (.aload_n 0) 1, hz_m (.getfield 19) 3 [1, 2] [], hz_n, hz_n, hz_r (.aload_n 1) 1, hz_m (.getfield 61) 3 [6, 7] [], hz_n],
  [hz_n, hz_r (.iload 4) 2, hz_n, hz_r (.iaload) 1, hz_m (.invokevirtual 65) 3 [50, 2, 1, 5] [], hz_n, hz_n, hz_r (.iload_n 3) 1, hz_r (.if_icmp .le 27) 3, hz_n, hz_n, hz_r (.aload_n 0) 1, hz_m (.getfield 15) 3 [1, 1] [], hz_n, hz_n, hz_r (.aload_n 1) 1],
  [hz_r (.aload_n 0) 1, hz_m (.getfield 9) 3 [1, 0] [], hz_n, hz_n, hz_r (.iload 4) 2, hz_n, hz_m (.invokevirtual 71) 3 [105, 4, 1, 10] [], hz_n, hz_n, hz_r (.ifCond .eq 10) 3, hz_n, hz_n, hz_r (.iload_n 2) 1, hz_r (.iconst 1) 1, hz_r (.iload 4) 2, hz_n],
  [hz_r (.ishl) 1, hz_r (.ior) 1, hz_r (.istore_n 2) 1, hz_r (.iinc 4 1) 3, hz_n, hz_n, hz_r (.goto (-75)) 3, hz_n, hz_n, hz_m (.iload_n 2) 1 [] [false, false, true, false, false], hz_r (.ireturn) 1]]
/-- HeavierServes$Office.heaviestOf(LHeavierServes$State;I)I -/
def hs_k36 : hs_K := [
  [hz_m (.iconst 0) 1 [] [true, true, true, false, false, false], hz_r (.istore_n 3) 1, hz_r (.iconst (-1)) 1, hz_r (.istore 4) 2, hz_n, hz_r (.iconst 0) 1, hz_r (.istore 5) 2, hz_n, hz_r (.iload 5) 2, hz_n, hz_r (.bipush 8) 2, hz_n, hz_r (.if_icmp .ge 56) 3, hz_n, hz_n, hz_r (.iload_n 2) 1],
  [hz_r (.iload 5) 2, hz_n, hz_r (.ishr) 1, hz_r (.iconst 1) 1, hz_r (.iand) 1, hz_r (.ifCond .eq 41) 3, hz_n, hz_n, hz_r (.aload_n 0) 1, hz_m (.getfield 19) 3 [1, 2] [], hz_n, hz_n, hz_r (.aload_n 1) 1, hz_m (.getfield 61) 3 [6, 7] [], hz_n, hz_n],
  [hz_r (.iload 5) 2, hz_n, hz_r (.iaload) 1, hz_m (.invokevirtual 65) 3 [50, 2, 1, 5] [], hz_n, hz_n, hz_r (.iload 4) 2, hz_n, hz_r (.if_icmp .le 22) 3, hz_n, hz_n, hz_m (.iload 5) 2 [] [true, true, true, false, false, true], hz_n, hz_r (.istore_n 3) 1, hz_r (.aload_n 0) 1, hz_m (.getfield 19) 3 [1, 2] []],
  [hz_n, hz_n, hz_r (.aload_n 1) 1, hz_m (.getfield 61) 3 [6, 7] [], hz_n, hz_n, hz_r (.iload 5) 2, hz_n, hz_r (.iaload) 1, hz_m (.invokevirtual 65) 3 [50, 2, 1, 5] [], hz_n, hz_n, hz_r (.istore 4) 2, hz_n, hz_r (.iinc 5 1) 3, hz_n],
  [hz_n, hz_r (.goto (-57)) 3, hz_n, hz_n, hz_m (.iload_n 3) 1 [] [false, false, false, true, false, false], hz_r (.ireturn) 1]]
/-- HeavierServes$Pairs.append(II)I -/
def hs_k37 : hs_K := [
  [hz_r (.aload_n 0) 1, hz_m (.getfield 24) 3 [2, 2] [], hz_n, hz_n, hz_r (.ifCond .lt 15) 3, hz_n, hz_n, hz_r (.aload_n 0) 1, hz_m (.getfield 24) 3 [2, 2] [], hz_n, hz_n, hz_r (.aload_n 0) 1, hz_m (.getfield 15) 3 [2, 0] [], hz_n, hz_n, hz_r (.arraylength) 1],
  [hz_r (.if_icmp .lt 5) 3, hz_n, hz_n, hz_m (.iconst (-1)) 1 [] [false, false, false], hz_r (.ireturn) 1, hz_r (.aload_n 0) 1, hz_m (.getfield 15) 3 [2, 0] [], hz_n, hz_n, hz_r (.aload_n 0) 1, hz_m (.getfield 24) 3 [2, 2] [], hz_n, hz_n, hz_r (.iload_n 1) 1, hz_r (.iastore) 1, hz_r (.aload_n 0) 1],
  [hz_m (.getfield 21) 3 [2, 1] [], hz_n, hz_n, hz_r (.aload_n 0) 1, hz_m (.getfield 24) 3 [2, 2] [], hz_n, hz_n, hz_r (.iload_n 2) 1, hz_r (.iastore) 1, hz_r (.aload_n 0) 1, hz_r (.dup) 1, hz_m (.getfield 24) 3 [2, 2] [], hz_n, hz_n, hz_r (.iconst 1) 1, hz_r (.iadd) 1],
  [hz_m (.putfield 24) 3 [2, 2] [], hz_n, hz_n, hz_r (.aload_n 0) 1, hz_m (.getfield 24) 3 [2, 2] [], hz_n, hz_n, hz_r (.ireturn) 1]]
/-- HeavierServes$Pairs.person(I)I -/
def hs_k38 : hs_K := [
  [hz_r (.iload_n 1) 1, hz_r (.ifCond .lt 12) 3, hz_n, hz_n, hz_r (.iload_n 1) 1, hz_r (.aload_n 0) 1, hz_m (.getfield 15) 3 [2, 0] [], hz_n, hz_n, hz_r (.arraylength) 1, hz_r (.if_icmp .lt 7) 3, hz_n, hz_n, hz_m (.iconst (-1)) 1 [] [false, false], hz_r (.goto 9) 3, hz_n],
  [hz_n, hz_r (.aload_n 0) 1, hz_m (.getfield 15) 3 [2, 0] [], hz_n, hz_n, hz_r (.iload_n 1) 1, hz_r (.iaload) 1, hz_m (.ireturn) 1 [] [false, false]]]
/-- HeavierServes$Pairs.value(I)I -/
def hs_k39 : hs_K := [
  [hz_r (.iload_n 1) 1, hz_r (.ifCond .lt 12) 3, hz_n, hz_n, hz_r (.iload_n 1) 1, hz_r (.aload_n 0) 1, hz_m (.getfield 21) 3 [2, 1] [], hz_n, hz_n, hz_r (.arraylength) 1, hz_r (.if_icmp .lt 7) 3, hz_n, hz_n, hz_m (.iconst (-1)) 1 [] [false, false], hz_r (.goto 9) 3, hz_n],
  [hz_n, hz_r (.aload_n 0) 1, hz_m (.getfield 21) 3 [2, 1] [], hz_n, hz_n, hz_r (.iload_n 1) 1, hz_r (.iaload) 1, hz_m (.ireturn) 1 [] [false, false]]]
/-- HeavierServes$Past.remember(LHeavierServes$State;)V -/
def hs_k40 : hs_K := [
  [hz_r (.aload_n 0) 1, hz_m (.getfield 25) 3 [3, 4] [], hz_n, hz_n, hz_r (.bipush 20) 2, hz_n, hz_r (.if_icmp .ne 26) 3, hz_n, hz_n, hz_r (.aload_n 0) 1, hz_r (.aload_n 0) 1, hz_m (.getfield 29) 3 [3, 3] [], hz_n, hz_n, hz_r (.iconst 1) 1, hz_r (.iadd) 1],
  [hz_r (.bipush 20) 2, hz_n, hz_r (.irem) 1, hz_m (.putfield 29) 3 [3, 3] [], hz_n, hz_n, hz_r (.aload_n 0) 1, hz_r (.dup) 1, hz_m (.getfield 25) 3 [3, 4] [], hz_n, hz_n, hz_r (.iconst 1) 1, hz_r (.isub) 1, hz_m (.putfield 25) 3 [3, 4] [], hz_n, hz_n],
  [hz_r (.aload_n 0) 1, hz_m (.getfield 13) 3 [3, 0] [], hz_n, hz_n, hz_r (.aload_n 0) 1, hz_m (.getfield 29) 3 [3, 3] [], hz_n, hz_n, hz_r (.aload_n 0) 1, hz_m (.getfield 25) 3 [3, 4] [], hz_n, hz_n, hz_r (.iadd) 1, hz_r (.bipush 20) 2, hz_n, hz_m (.invokestatic 32) 3 [1, 2, 1] []],
  [hz_n, hz_n, hz_r (.aaload) 1, hz_r (.aload_n 1) 1, hz_m (.invokevirtual 38) 3 [56, 2, 0, 6] [], hz_n, hz_n, hz_r (.aload_n 0) 1, hz_r (.dup) 1, hz_m (.getfield 25) 3 [3, 4] [], hz_n, hz_n, hz_r (.iconst 1) 1, hz_r (.iadd) 1, hz_m (.putfield 25) 3 [3, 4] [], hz_n],
  [hz_n, hz_r (.return_) 1]]
/-- HeavierServes$Past.stepBack(LHeavierServes$State;)Z -/
def hs_k41 : hs_K := [
  [hz_r (.aload_n 0) 1, hz_m (.getfield 25) 3 [3, 4] [], hz_n, hz_n, hz_r (.iconst 1) 1, hz_r (.if_icmp .ge 5) 3, hz_n, hz_n, hz_m (.iconst 0) 1 [] [false, false], hz_r (.ireturn) 1, hz_r (.aload_n 0) 1, hz_r (.dup) 1, hz_m (.getfield 25) 3 [3, 4] [], hz_n, hz_n, hz_r (.iconst 1) 1],
  [hz_r (.isub) 1, hz_m (.putfield 25) 3 [3, 4] [], hz_n, hz_n, hz_r (.aload_n 1) 1, hz_r (.aload_n 0) 1, hz_m (.getfield 13) 3 [3, 0] [], hz_n, hz_n, hz_r (.aload_n 0) 1, hz_m (.getfield 29) 3 [3, 3] [], hz_n, hz_n, hz_r (.aload_n 0) 1, hz_m (.getfield 25) 3 [3, 4] [], hz_n],
  [hz_n, hz_r (.iadd) 1, hz_r (.bipush 20) 2, hz_n, hz_m (.invokestatic 32) 3 [1, 2, 1] [], hz_n, hz_n, hz_r (.aaload) 1, hz_m (.invokevirtual 38) 3 [56, 2, 0, 6] [], hz_n, hz_n, hz_r (.iconst 1) 1, hz_r (.ireturn) 1]]
/-- HeavierServes$Past.forgetSteps()V -/
def hs_k42 : hs_K := [
  [hz_r (.aload_n 0) 1, hz_r (.iconst 0) 1, hz_m (.putfield 25) 3 [3, 4] [], hz_n, hz_n, hz_r (.return_) 1]]
/-- HeavierServes$Past.keepAside(ILHeavierServes$State;I)Z -/
def hs_k43 : hs_K := [
  [hz_r (.iload_n 1) 1, hz_r (.ifCond .lt 8) 3, hz_n, hz_n, hz_r (.iload_n 1) 1, hz_r (.iconst 3) 1, hz_r (.if_icmp .lt 5) 3, hz_n, hz_n, hz_m (.iconst 0) 1 [] [false, false, false, false], hz_r (.ireturn) 1, hz_r (.aload_n 0) 1, hz_m (.getfield 17) 3 [3, 1] [], hz_n, hz_n, hz_r (.iload_n 1) 1],
  [hz_r (.aaload) 1, hz_r (.aload_n 2) 1, hz_m (.invokevirtual 38) 3 [56, 2, 0, 6] [], hz_n, hz_n, hz_r (.aload_n 0) 1, hz_m (.getfield 20) 3 [3, 2] [], hz_n, hz_n, hz_r (.iload_n 1) 1, hz_r (.iload_n 3) 1, hz_r (.iastore) 1, hz_r (.iconst 1) 1, hz_r (.ireturn) 1]]
/-- HeavierServes$Past.takeAgain(ILHeavierServes$State;I)Z -/
def hs_k44 : hs_K := [
  [hz_r (.iload_n 1) 1, hz_r (.ifCond .lt 18) 3, hz_n, hz_n, hz_r (.iload_n 1) 1, hz_r (.iconst 3) 1, hz_r (.if_icmp .ge 13) 3, hz_n, hz_n, hz_r (.aload_n 0) 1, hz_m (.getfield 20) 3 [3, 2] [], hz_n, hz_n, hz_r (.iload_n 1) 1, hz_r (.iaload) 1, hz_r (.iload_n 3) 1],
  [hz_r (.if_icmp .eq 5) 3, hz_n, hz_n, hz_m (.iconst 0) 1 [] [false, false, false, false], hz_r (.ireturn) 1, hz_m (.aload_n 2) 1 [] [true, true, true, false], hz_r (.aload_n 0) 1, hz_m (.getfield 17) 3 [3, 1] [], hz_n, hz_n, hz_r (.iload_n 1) 1, hz_r (.aaload) 1, hz_m (.invokevirtual 38) 3 [56, 2, 0, 6] [], hz_n, hz_n, hz_r (.aload_n 0) 1],
  [hz_m (.invokevirtual 42) 3 [42, 1, 0, 3] [], hz_n, hz_n, hz_r (.iconst 1) 1, hz_r (.ireturn) 1]]
/-- HeavierServes$Row.begin(J)V -/
def hs_k45 : hs_K := [
  [hz_m (.aload_n 0) 1 [] [true, true, false], hz_r (.iconst 0) 1, hz_m (.putfield 13) 3 [4, 1] [], hz_n, hz_n, hz_r (.aload_n 0) 1, hz_r (.lload_n 1) 1, hz_m (.invokevirtual 17) 3 [46, 2, 0, 4] [], hz_n, hz_n, hz_r (.return_) 1]]
/-- HeavierServes$Row.add(J)V -/
def hs_k46 : hs_K := [
  [hz_m (.aload_n 0) 1 [] [true, true, false], hz_m (.getfield 13) 3 [4, 1] [], hz_n, hz_n, hz_r (.ifCond .lt 32) 3, hz_n, hz_n, hz_m (.aload_n 0) 1 [] [true, true, false], hz_m (.getfield 13) 3 [4, 1] [], hz_n, hz_n, hz_r (.bipush 16) 2, hz_n, hz_r (.if_icmp .ge 23) 3, hz_n, hz_n],
  [hz_m (.aload_n 0) 1 [] [true, true, false], hz_m (.getfield 9) 3 [4, 0] [], hz_n, hz_n, hz_r (.aload_n 0) 1, hz_m (.getfield 13) 3 [4, 1] [], hz_n, hz_n, hz_r (.lload_n 1) 1, hz_r (.lastore) 1, hz_r (.aload_n 0) 1, hz_r (.dup) 1, hz_m (.getfield 13) 3 [4, 1] [], hz_n, hz_n, hz_r (.iconst 1) 1],
  [hz_r (.iadd) 1, hz_m (.putfield 13) 3 [4, 1] [], hz_n, hz_n, hz_m (.return_) 1 [] [false, false, false]]]
/-- HeavierServes$Row.range(III)V -/
def hs_k47 : hs_K := [
  [hz_r (.aload_n 0) 1, hz_r (.iconst 0) 1, hz_m (.putfield 13) 3 [4, 1] [], hz_n, hz_n, hz_r (.iload_n 1) 1, hz_r (.ifCond .le 15) 3, hz_n, hz_n, hz_m (.aload_n 0) 1 [] [true, false, true, true], hz_r (.iload_n 2) 1, hz_r (.i2l) 1, hz_m (.invokevirtual 17) 3 [46, 2, 0, 4] [], hz_n, hz_n, hz_r (.aload_n 0) 1],
  [hz_r (.iload_n 3) 1, hz_r (.i2l) 1, hz_m (.invokevirtual 17) 3 [46, 2, 0, 4] [], hz_n, hz_n, hz_m (.return_) 1 [] [false, false, false, false]]]
/-- HeavierServes$Row.fraction(JJ)V -/
def hs_k48 : hs_K := [
  [hz_m (.lload_n 1) 1 [] [true, true, false, true, false, false, false], hz_r (.lload_n 3) 1, hz_m (.invokestatic 21) 3 [49, 2, 2] [], hz_n, hz_n, hz_r (.lstore 5) 2, hz_n, hz_r (.lload 5) 2, hz_n, hz_r (.lconst 0) 1, hz_r (.lcmp) 1, hz_r (.ifCond .le 19) 3, hz_n, hz_n, hz_m (.aload_n 0) 1 [] [true, true, false, true, false, true, false], hz_r (.lload_n 1) 1],
  [hz_r (.lload 5) 2, hz_n, hz_r (.ldiv) 1, hz_m (.invokevirtual 25) 3 [45, 2, 0, 4] [], hz_n, hz_n, hz_r (.aload_n 0) 1, hz_r (.lload_n 3) 1, hz_r (.lload 5) 2, hz_n, hz_r (.ldiv) 1, hz_m (.invokevirtual 17) 3 [46, 2, 0, 4] [], hz_n, hz_n, hz_m (.return_) 1 [] [false, false, false, false, false, false, false]]]
/-- HeavierServes$Row.commonDivisor(JJ)J -/
def hs_k49 : hs_K := [
  [hz_m (.iconst 0) 1 [] [true, false, true, false, false, false, false], hz_r (.istore 4) 2, hz_n, hz_m (.iload 4) 2 [] [true, false, true, false, true, false, false], hz_n, hz_r (.sipush 200) 3, hz_n, hz_n, hz_r (.if_icmp .ge 25) 3, hz_n, hz_n, hz_m (.lload_n 2) 1 [] [true, false, true, false, true, false, false], hz_r (.lconst 0) 1, hz_r (.lcmp) 1, hz_r (.ifCond .eq 19) 3, hz_n],
  [hz_n, hz_m (.lload_n 0) 1 [] [true, false, true, false, true, false, false], hz_r (.lload_n 2) 1, hz_r (.lrem) 1, hz_r (.lstore 5) 2, hz_n, hz_r (.lload_n 2) 1, hz_r (.lstore_n 0) 1, hz_r (.lload 5) 2, hz_n, hz_r (.lstore_n 2) 1, hz_r (.iinc 4 1) 3, hz_n, hz_n, hz_r (.goto (-27)) 3, hz_n],
  [hz_n, hz_m (.lload_n 0) 1 [] [true, false, false, false, false, false, false], hz_r (.lreturn) 1]]
/-- HeavierServes$Scale.shows(I)I -/
def hs_k50 : hs_K := [
  [hz_m (.iload_n 1) 1 [] [true, true, false], hz_r (.aload_n 0) 1, hz_m (.getfield 15) 3 [5, 1] [], hz_n, hz_n, hz_r (.iadd) 1, hz_r (.istore_n 2) 1, hz_r (.iload_n 2) 1, hz_r (.ifCond .ge 5) 3, hz_n, hz_n, hz_m (.iconst 0) 1 [] [false, false, false], hz_r (.ireturn) 1, hz_m (.aload_n 0) 1 [] [true, false, true], hz_m (.getfield 9) 3 [5, 0] [], hz_n],
  [hz_n, hz_r (.iconst 1) 1, hz_r (.if_icmp .ge 7) 3, hz_n, hz_n, hz_m (.iload_n 2) 1 [] [false, false, true], hz_r (.goto 11) 3, hz_n, hz_n, hz_m (.iload_n 2) 1 [] [true, false, true], hz_r (.iload_n 2) 1, hz_r (.aload_n 0) 1, hz_m (.getfield 9) 3 [5, 0] [], hz_n, hz_n, hz_r (.irem) 1],
  [hz_r (.isub) 1, hz_m (.ireturn) 1 [] [false, false, false]]]
/-- HeavierServes$Scale.misfits(LHeavierServes$Pairs;[II)I -/
def hs_k51 : hs_K := [
  [hz_m (.iconst 0) 1 [] [true, true, true, true, false, false, false], hz_r (.istore 4) 2, hz_n, hz_r (.iconst 0) 1, hz_r (.istore 5) 2, hz_n, hz_m (.iload 5) 2 [] [true, true, true, true, true, true, false], hz_n, hz_r (.aload_n 1) 1, hz_m (.getfield 18) 3 [2, 2] [], hz_n, hz_n, hz_r (.if_icmp .ge 65) 3, hz_n, hz_n, hz_m (.aload_n 1) 1 [] [true, true, true, true, true, true, false]],
  [hz_r (.iload 5) 2, hz_n, hz_m (.invokevirtual 23) 3 [38, 2, 1, 2] [], hz_n, hz_n, hz_r (.istore 6) 2, hz_n, hz_r (.iload 6) 2, hz_n, hz_r (.ifCond .lt 46) 3, hz_n, hz_n, hz_r (.iload 6) 2, hz_n, hz_r (.aload_n 2) 1, hz_r (.arraylength) 1],
  [hz_r (.if_icmp .lt 6) 3, hz_n, hz_n, hz_m (.goto 36) 3 [] [true, true, true, true, true, true, false], hz_n, hz_n, hz_r (.aload_n 0) 1, hz_r (.aload_n 2) 1, hz_r (.iload 6) 2, hz_n, hz_r (.iaload) 1, hz_r (.iload_n 3) 1, hz_r (.iadd) 1, hz_r (.aload_n 0) 1, hz_m (.getfield 15) 3 [5, 1] [], hz_n],
  [hz_n, hz_r (.isub) 1, hz_m (.invokevirtual 27) 3 [50, 2, 1, 5] [], hz_n, hz_n, hz_r (.aload_n 1) 1, hz_r (.iload 5) 2, hz_n, hz_m (.invokevirtual 30) 3 [39, 2, 1, 2] [], hz_n, hz_n, hz_r (.if_icmp .eq 12) 3, hz_n, hz_n, hz_r (.iload 4) 2, hz_n],
  [hz_r (.iconst 1) 1, hz_r (.iload 6) 2, hz_n, hz_r (.ishl) 1, hz_r (.ior) 1, hz_r (.istore 4) 2, hz_n, hz_m (.iinc 5 1) 3 [] [true, true, true, true, true, true, false], hz_n, hz_n, hz_r (.goto (-68)) 3, hz_n, hz_n, hz_m (.iload 4) 2 [] [false, false, false, false, true, false, false], hz_n, hz_r (.ireturn) 1]]
/-- HeavierServes$Scale.possibleGrains(LHeavierServes$Pairs;I)I -/
def hs_k52 : hs_K := [
  [hz_m (.iconst 0) 1 [] [true, true, true, false, false, false, false], hz_r (.istore_n 3) 1, hz_r (.iconst 1) 1, hz_r (.istore 4) 2, hz_n, hz_m (.iload 4) 2 [] [true, true, true, true, true, false, false], hz_n, hz_r (.bipush 9) 2, hz_n, hz_r (.if_icmp .gt 63) 3, hz_n, hz_n, hz_m (.iconst 1) 1 [] [true, true, true, true, true, false, false], hz_r (.istore 5) 2, hz_n, hz_r (.iconst 0) 1],
  [hz_r (.istore 6) 2, hz_n, hz_r (.iload 6) 2, hz_n, hz_r (.iload_n 2) 1, hz_r (.if_icmp .ge 33) 3, hz_n, hz_n, hz_r (.iload 5) 2, hz_n, hz_r (.ifCond .eq 28) 3, hz_n, hz_n, hz_m (.aload_n 0) 1 [] [true, true, true, true, true, false, true], hz_r (.aload_n 1) 1, hz_r (.iload 6) 2],
  [hz_n, hz_r (.iload 4) 2, hz_n, hz_m (.invokevirtual 33) 3 [53, 4, 1, 5] [], hz_n, hz_n, hz_r (.ifCond .le 7) 3, hz_n, hz_n, hz_m (.iconst 1) 1 [] [true, true, true, true, true, false, true], hz_r (.goto 4) 3, hz_n, hz_n, hz_m (.iconst 0) 1 [] [true, true, true, true, true, false, true], hz_m (.istore 5) 2 [] [true, true, true, true, true, false, true], hz_n],
  [hz_r (.iinc 6 1) 3, hz_n, hz_n, hz_r (.goto (-33)) 3, hz_n, hz_n, hz_m (.iload 5) 2 [] [true, true, true, true, true, true, false], hz_n, hz_r (.ifCond .eq 10) 3, hz_n, hz_n, hz_m (.iload_n 3) 1 [] [true, true, true, true, true, false, false], hz_r (.iconst 1) 1, hz_r (.iload 4) 2, hz_n, hz_r (.ishl) 1],
  [hz_r (.ior) 1, hz_r (.istore_n 3) 1, hz_m (.iinc 4 1) 3 [] [true, true, true, true, true, false, false], hz_n, hz_n, hz_r (.goto (-64)) 3, hz_n, hz_n, hz_m (.iload_n 3) 1 [] [false, false, false, true, false, false, false], hz_r (.ireturn) 1]]
/-- HeavierServes$Scale.narrow(LHeavierServes$Pairs;II)I -/
def hs_k53 : hs_K := [
  [hz_m (.aload_n 0) 1 [] [true, true, true, true, false], hz_r (.iconst 1) 1, hz_m (.putfield 37) 3 [5, 2] [], hz_n, hz_n, hz_r (.aload_n 0) 1, hz_r (.sipush 999) 3, hz_n, hz_n, hz_m (.putfield 40) 3 [5, 3] [], hz_n, hz_n, hz_r (.iconst 0) 1, hz_r (.istore 4) 2, hz_n, hz_r (.iload 4) 2],
  [hz_n, hz_r (.aload_n 1) 1, hz_m (.getfield 18) 3 [2, 2] [], hz_n, hz_n, hz_r (.if_icmp .ge 30) 3, hz_n, hz_n, hz_r (.aload_n 1) 1, hz_r (.iload 4) 2, hz_n, hz_m (.invokevirtual 23) 3 [38, 2, 1, 2] [], hz_n, hz_n, hz_r (.iload_n 2) 1, hz_r (.if_icmp .ne 14) 3],
  [hz_n, hz_n, hz_r (.aload_n 0) 1, hz_r (.aload_n 1) 1, hz_r (.iload 4) 2, hz_n, hz_m (.invokevirtual 30) 3 [39, 2, 1, 2] [], hz_n, hz_n, hz_r (.iload_n 3) 1, hz_m (.invokevirtual 43) 3 [54, 3, 0, 5] [], hz_n, hz_n, hz_r (.iinc 4 1) 3, hz_n, hz_n],
  [hz_r (.goto (-33)) 3, hz_n, hz_n, hz_m (.iconst 0) 1 [] [true, false, false, false, false], hz_r (.aload_n 0) 1, hz_m (.getfield 40) 3 [5, 3] [], hz_n, hz_n, hz_r (.aload_n 0) 1, hz_m (.getfield 37) 3 [5, 2] [], hz_n, hz_n, hz_r (.isub) 1, hz_r (.iconst 1) 1, hz_r (.iadd) 1, hz_m (.invokestatic 47) 3 [2, 2, 1] []],
  [hz_n, hz_n, hz_r (.ireturn) 1]]
/-- HeavierServes$Scale.narrowBy(II)V -/
def hs_k54 : hs_K := [
  [hz_r (.iload_n 2) 1, hz_r (.iconst 1) 1, hz_r (.if_icmp .lt 9) 3, hz_n, hz_n, hz_r (.iload_n 1) 1, hz_r (.iload_n 2) 1, hz_r (.irem) 1, hz_r (.ifCond .eq 9) 3, hz_n, hz_n, hz_m (.aload_n 0) 1 [] [true, false, false], hz_r (.iconst 0) 1, hz_m (.putfield 40) 3 [5, 3] [], hz_n, hz_n],
  [hz_r (.return_) 1, hz_r (.iload_n 1) 1, hz_r (.ifCond .le 20) 3, hz_n, hz_n, hz_r (.aload_n 0) 1, hz_r (.aload_n 0) 1, hz_m (.getfield 37) 3 [5, 2] [], hz_n, hz_n, hz_r (.iload_n 1) 1, hz_r (.aload_n 0) 1, hz_m (.getfield 15) 3 [5, 1] [], hz_n, hz_n, hz_r (.isub) 1],
  [hz_m (.invokestatic 47) 3 [2, 2, 1] [], hz_n, hz_n, hz_m (.putfield 37) 3 [5, 2] [], hz_n, hz_n, hz_r (.aload_n 0) 1, hz_r (.aload_n 0) 1, hz_m (.getfield 40) 3 [5, 3] [], hz_n, hz_n, hz_r (.iload_n 1) 1, hz_r (.iload_n 2) 1, hz_r (.iadd) 1, hz_r (.iconst 1) 1, hz_r (.isub) 1],
  [hz_r (.aload_n 0) 1, hz_m (.getfield 15) 3 [5, 1] [], hz_n, hz_n, hz_r (.isub) 1, hz_m (.invokestatic 53) 3 [3, 2, 1] [], hz_n, hz_n, hz_m (.putfield 40) 3 [5, 3] [], hz_n, hz_n, hz_r (.return_) 1]]
/-- HeavierServes$State.follow(LHeavierServes$State;)V -/
def hs_k55 : hs_K := [
  [hz_r (.aload_n 0) 1, hz_r (.aload_n 1) 1, hz_m (.getfield 34) 3 [6, 0] [], hz_n, hz_n, hz_m (.putfield 34) 3 [6, 0] [], hz_n, hz_n, hz_r (.aload_n 0) 1, hz_r (.aload_n 1) 1, hz_m (.getfield 9) 3 [6, 1] [], hz_n, hz_n, hz_m (.putfield 9) 3 [6, 1] [], hz_n, hz_n],
  [hz_r (.aload_n 0) 1, hz_r (.aload_n 1) 1, hz_m (.getfield 37) 3 [6, 2] [], hz_n, hz_n, hz_m (.putfield 37) 3 [6, 2] [], hz_n, hz_n, hz_r (.aload_n 0) 1, hz_r (.aload_n 1) 1, hz_m (.getfield 40) 3 [6, 3] [], hz_n, hz_n, hz_m (.putfield 40) 3 [6, 3] [], hz_n, hz_n],
  [hz_r (.aload_n 0) 1, hz_r (.aload_n 1) 1, hz_m (.getfield 43) 3 [6, 4] [], hz_n, hz_n, hz_m (.putfield 43) 3 [6, 4] [], hz_n, hz_n, hz_r (.aload_n 0) 1, hz_r (.aload_n 1) 1, hz_m (.getfield 46) 3 [6, 5] [], hz_n, hz_n, hz_m (.putfield 46) 3 [6, 5] [], hz_n, hz_n],
  [hz_r (.aload_n 1) 1, hz_m (.getfield 15) 3 [6, 7] [], hz_n, hz_n, hz_r (.iconst 0) 1, hz_r (.aload_n 0) 1, hz_m (.getfield 15) 3 [6, 7] [], hz_n, hz_n, hz_r (.iconst 0) 1, hz_r (.bipush 8) 2, hz_n, hz_m (.invokestatic 49) 3 [7] [], hz_n, hz_n, hz_r (.aload_n 1) 1],
  [hz_m (.getfield 19) 3 [6, 8] [], hz_n, hz_n, hz_r (.iconst 0) 1, hz_r (.aload_n 0) 1, hz_m (.getfield 19) 3 [6, 8] [], hz_n, hz_n, hz_r (.iconst 0) 1, hz_r (.bipush 8) 2, hz_n, hz_m (.invokestatic 49) 3 [7] [], hz_n, hz_n, hz_r (.return_) 1]]
/-- HeavierServes$State.copy(LHeavierServes$State;)V -/
def hs_k56 : hs_K := [
  [hz_r (.aload_n 0) 1, hz_r (.aload_n 1) 1, hz_m (.invokevirtual 55) 3 [55, 2, 0, 6] [], hz_n, hz_n, hz_r (.aload_n 0) 1, hz_r (.aload_n 1) 1, hz_m (.getfield 59) 3 [6, 6] [], hz_n, hz_n, hz_m (.putfield 59) 3 [6, 6] [], hz_n, hz_n, hz_r (.aload_n 1) 1, hz_m (.getfield 22) 3 [6, 9] [], hz_n],
  [hz_n, hz_r (.iconst 0) 1, hz_r (.aload_n 0) 1, hz_m (.getfield 22) 3 [6, 9] [], hz_n, hz_n, hz_r (.iconst 0) 1, hz_r (.bipush 12) 2, hz_n, hz_m (.invokestatic 49) 3 [7] [], hz_n, hz_n, hz_r (.aload_n 1) 1, hz_m (.getfield 25) 3 [6, 10] [], hz_n, hz_n],
  [hz_r (.iconst 0) 1, hz_r (.aload_n 0) 1, hz_m (.getfield 25) 3 [6, 10] [], hz_n, hz_n, hz_r (.iconst 0) 1, hz_r (.bipush 12) 2, hz_n, hz_m (.invokestatic 49) 3 [7] [], hz_n, hz_n, hz_r (.aload_n 1) 1, hz_m (.getfield 28) 3 [6, 11] [], hz_n, hz_n, hz_r (.iconst 0) 1],
  [hz_r (.aload_n 0) 1, hz_m (.getfield 28) 3 [6, 11] [], hz_n, hz_n, hz_r (.iconst 0) 1, hz_r (.bipush 12) 2, hz_n, hz_m (.invokestatic 49) 3 [7] [], hz_n, hz_n, hz_r (.aload_n 1) 1, hz_m (.getfield 31) 3 [6, 12] [], hz_n, hz_n, hz_r (.iconst 0) 1, hz_r (.aload_n 0) 1],
  [hz_m (.getfield 31) 3 [6, 12] [], hz_n, hz_n, hz_r (.iconst 0) 1, hz_r (.bipush 60) 2, hz_n, hz_m (.invokestatic 49) 3 [7] [], hz_n, hz_n, hz_r (.return_) 1]]
/-- HeavierServes$State.welcome(II)V -/
def hs_k57 : hs_K := [
  [hz_r (.iload_n 1) 1, hz_r (.ifCond .lt 35) 3, hz_n, hz_n, hz_r (.iload_n 1) 1, hz_r (.bipush 8) 2, hz_n, hz_r (.if_icmp .ge 29) 3, hz_n, hz_n, hz_r (.aload_n 0) 1, hz_m (.getfield 15) 3 [6, 7] [], hz_n, hz_n, hz_r (.iload_n 1) 1, hz_r (.iload_n 2) 1],
  [hz_r (.iastore) 1, hz_r (.aload_n 0) 1, hz_m (.getfield 19) 3 [6, 8] [], hz_n, hz_n, hz_r (.iload_n 1) 1, hz_r (.iconst 0) 1, hz_r (.iastore) 1, hz_r (.aload_n 0) 1, hz_r (.dup) 1, hz_m (.getfield 40) 3 [6, 3] [], hz_n, hz_n, hz_r (.iconst 1) 1, hz_r (.iload_n 1) 1, hz_r (.ishl) 1],
  [hz_r (.ior) 1, hz_m (.putfield 40) 3 [6, 3] [], hz_n, hz_n, hz_m (.return_) 1 [] [false, false, false]]]
/-- HeavierServes$State.lives(I)Z -/
def hs_k58 : hs_K := [
  [hz_r (.aload_n 0) 1, hz_m (.getfield 40) 3 [6, 3] [], hz_n, hz_n, hz_r (.iload_n 1) 1, hz_r (.ishr) 1, hz_r (.iconst 1) 1, hz_r (.iand) 1, hz_r (.ifCond .eq 7) 3, hz_n, hz_n, hz_m (.iconst 1) 1 [] [false, false], hz_r (.goto 4) 3, hz_n, hz_n, hz_m (.iconst 0) 1 [] [false, false]],
  [hz_m (.ireturn) 1 [] [false, false]]]
/-- HeavierServes$State.putWeight(II)V -/
def hs_k59 : hs_K := [
  [hz_r (.iload_n 1) 1, hz_r (.ifCond .lt 19) 3, hz_n, hz_n, hz_r (.iload_n 1) 1, hz_r (.bipush 8) 2, hz_n, hz_r (.if_icmp .ge 13) 3, hz_n, hz_n, hz_r (.aload_n 0) 1, hz_m (.getfield 15) 3 [6, 7] [], hz_n, hz_n, hz_r (.iload_n 1) 1, hz_r (.iload_n 2) 1],
  [hz_m (.invokestatic 62) 3 [160, 1, 1] [], hz_n, hz_n, hz_r (.iastore) 1, hz_m (.return_) 1 [] [false, false, false]]]
/-- HeavierServes$State.makeLaw()I -/
def hs_k60 : hs_K := [
  [hz_m (.aload_n 0) 1 [] [true, false], hz_m (.getfield 59) 3 [6, 6] [], hz_n, hz_n, hz_r (.istore_n 1) 1, hz_r (.iload_n 1) 1, hz_r (.ifCond .lt 9) 3, hz_n, hz_n, hz_r (.iload_n 1) 1, hz_r (.bipush 12) 2, hz_n, hz_r (.if_icmp .lt 5) 3, hz_n, hz_n, hz_m (.iconst (-1)) 1 [] [false, false]],
  [hz_r (.ireturn) 1, hz_r (.aload_n 0) 1, hz_m (.getfield 22) 3 [6, 9] [], hz_n, hz_n, hz_r (.iload_n 1) 1, hz_r (.aload_n 0) 1, hz_m (.getfield 9) 3 [6, 1] [], hz_n, hz_n, hz_r (.iastore) 1, hz_r (.aload_n 0) 1, hz_m (.getfield 25) 3 [6, 10] [], hz_n, hz_n, hz_r (.iload_n 1) 1],
  [hz_r (.aload_n 0) 1, hz_m (.getfield 34) 3 [6, 0] [], hz_n, hz_n, hz_r (.iastore) 1, hz_r (.aload_n 0) 1, hz_m (.getfield 28) 3 [6, 11] [], hz_n, hz_n, hz_r (.iload_n 1) 1, hz_r (.iconst (-1)) 1, hz_r (.iastore) 1, hz_r (.aload_n 0) 1, hz_r (.dup) 1, hz_m (.getfield 43) 3 [6, 4] [], hz_n],
  [hz_n, hz_r (.iconst 1) 1, hz_r (.iload_n 1) 1, hz_r (.ishl) 1, hz_r (.ior) 1, hz_m (.putfield 43) 3 [6, 4] [], hz_n, hz_n, hz_r (.aload_n 0) 1, hz_r (.dup) 1, hz_m (.getfield 46) 3 [6, 5] [], hz_n, hz_n, hz_r (.iconst 1) 1, hz_r (.iadd) 1, hz_m (.putfield 46) 3 [6, 5] []],
  [hz_n, hz_n, hz_r (.aload_n 0) 1, hz_r (.dup) 1, hz_m (.getfield 59) 3 [6, 6] [], hz_n, hz_n, hz_r (.iconst 1) 1, hz_r (.iadd) 1, hz_m (.putfield 59) 3 [6, 6] [], hz_n, hz_n, hz_r (.iload_n 1) 1, hz_r (.ireturn) 1]]
/-- HeavierServes$State.dropLaws()I -/
def hs_k61 : hs_K := [
  [hz_m (.aload_n 0) 1 [] [true, false, false], hz_m (.getfield 46) 3 [6, 5] [], hz_n, hz_n, hz_r (.istore_n 1) 1, hz_r (.iconst 0) 1, hz_r (.istore_n 2) 1, hz_r (.iload_n 2) 1, hz_r (.bipush 12) 2, hz_n, hz_r (.if_icmp .ge 34) 3, hz_n, hz_n, hz_r (.iload_n 1) 1, hz_r (.ifCond .le 30) 3, hz_n],
  [hz_n, hz_r (.aload_n 0) 1, hz_m (.getfield 43) 3 [6, 4] [], hz_n, hz_n, hz_r (.iload_n 2) 1, hz_r (.ishr) 1, hz_r (.iconst 1) 1, hz_r (.iand) 1, hz_r (.ifCond .eq 13) 3, hz_n, hz_n, hz_r (.aload_n 0) 1, hz_m (.getfield 28) 3 [6, 11] [], hz_n, hz_n],
  [hz_r (.iload_n 2) 1, hz_r (.aload_n 0) 1, hz_m (.getfield 34) 3 [6, 0] [], hz_n, hz_n, hz_r (.iastore) 1, hz_r (.iinc 2 1) 3, hz_n, hz_n, hz_r (.goto (-34)) 3, hz_n, hz_n, hz_m (.aload_n 0) 1 [] [true, true, false], hz_r (.iconst 0) 1, hz_m (.putfield 43) 3 [6, 4] [], hz_n],
  [hz_n, hz_r (.aload_n 0) 1, hz_r (.iconst 0) 1, hz_m (.putfield 46) 3 [6, 5] [], hz_n, hz_n, hz_r (.iload_n 1) 1, hz_r (.ireturn) 1]]
/-- HeavierServes$State.bury(I)I -/
def hs_k62 : hs_K := [
  [hz_r (.aload_n 0) 1, hz_r (.dup) 1, hz_m (.getfield 40) 3 [6, 3] [], hz_n, hz_n, hz_r (.iconst 1) 1, hz_r (.iload_n 1) 1, hz_r (.ishl) 1, hz_r (.iconst (-1)) 1, hz_r (.ixor) 1, hz_r (.iand) 1, hz_m (.putfield 40) 3 [6, 3] [], hz_n, hz_n, hz_r (.aload_n 0) 1, hz_m (.getfield 9) 3 [6, 1] []],
  [hz_n, hz_n, hz_r (.iload_n 1) 1, hz_r (.if_icmp .eq 5) 3, hz_n, hz_n, hz_m (.iconst 0) 1 [] [false, false], hz_r (.ireturn) 1, hz_m (.aload_n 0) 1 [] [true, false], hz_r (.iconst (-1)) 1, hz_m (.putfield 9) 3 [6, 1] [], hz_n, hz_n, hz_r (.aload_n 0) 1, hz_r (.iconst 0) 1, hz_m (.putfield 37) 3 [6, 2] []],
  [hz_n, hz_n, hz_r (.aload_n 0) 1, hz_m (.invokevirtual 66) 3 [61, 1, 1, 6] [], hz_n, hz_n, hz_r (.ireturn) 1]]
/-- HeavierServes$State.serveWeek(I)V -/
def hs_k63 : hs_K := [
  [hz_r (.iload_n 1) 1, hz_r (.iconst (-1)) 1, hz_r (.if_icmp .eq 18) 3, hz_n, hz_n, hz_r (.aload_n 0) 1, hz_m (.invokevirtual 66) 3 [61, 1, 1, 6] [], hz_n, hz_n, hz_r (.pop) 1, hz_r (.aload_n 0) 1, hz_r (.iload_n 1) 1, hz_m (.putfield 9) 3 [6, 1] [], hz_n, hz_n, hz_r (.aload_n 0) 1],
  [hz_r (.iconst 0) 1, hz_m (.putfield 37) 3 [6, 2] [], hz_n, hz_n, hz_m (.aload_n 0) 1 [] [true, false], hz_m (.getfield 9) 3 [6, 1] [], hz_n, hz_n, hz_r (.ifCond .lt 35) 3, hz_n, hz_n, hz_m (.aload_n 0) 1 [] [true, false], hz_m (.getfield 9) 3 [6, 1] [], hz_n, hz_n, hz_r (.bipush 8) 2],
  [hz_n, hz_r (.if_icmp .ge 26) 3, hz_n, hz_n, hz_m (.aload_n 0) 1 [] [true, false], hz_r (.dup) 1, hz_m (.getfield 37) 3 [6, 2] [], hz_n, hz_n, hz_r (.iconst 1) 1, hz_r (.iadd) 1, hz_m (.putfield 37) 3 [6, 2] [], hz_n, hz_n, hz_r (.aload_n 0) 1, hz_m (.getfield 19) 3 [6, 8] []],
  [hz_n, hz_n, hz_r (.aload_n 0) 1, hz_m (.getfield 9) 3 [6, 1] [], hz_n, hz_n, hz_r (.dup2) 1, hz_r (.iaload) 1, hz_r (.iconst 1) 1, hz_r (.iadd) 1, hz_r (.iastore) 1, hz_m (.aload_n 0) 1 [] [true, false], hz_m (.getfield 31) 3 [6, 12] [], hz_n, hz_n, hz_r (.aload_n 0) 1],
  [hz_m (.getfield 34) 3 [6, 0] [], hz_n, hz_n, hz_r (.bipush 60) 2, hz_n, hz_m (.invokestatic 70) 3 [1, 2, 1] [], hz_n, hz_n, hz_r (.aload_n 0) 1, hz_m (.getfield 9) 3 [6, 1] [], hz_n, hz_n, hz_r (.iastore) 1, hz_r (.return_) 1]]
/-- HeavierServes$Text.append(I)Z -/
def hs_k64 : hs_K := [
  [hz_m (.aload_n 0) 1 [] [true, true, false], hz_m (.getfield 15) 3 [7, 1] [], hz_n, hz_n, hz_r (.ifCond .lt 12) 3, hz_n, hz_n, hz_m (.aload_n 0) 1 [] [true, true, false], hz_m (.getfield 15) 3 [7, 1] [], hz_n, hz_n, hz_r (.bipush 76) 2, hz_n, hz_r (.if_icmp .le 5) 3, hz_n, hz_n],
  [hz_m (.iconst 0) 1 [] [false, false, false], hz_r (.ireturn) 1, hz_m (.iconst 0) 1 [] [true, true, false], hz_r (.istore_n 2) 1, hz_r (.iload_n 2) 1, hz_r (.iconst 4) 1, hz_r (.if_icmp .ge 33) 3, hz_n, hz_n, hz_r (.aload_n 0) 1, hz_m (.getfield 11) 3 [7, 0] [], hz_n, hz_n, hz_r (.aload_n 0) 1, hz_m (.getfield 15) 3 [7, 1] [], hz_n],
  [hz_n, hz_r (.iload_n 2) 1, hz_r (.iadd) 1, hz_r (.iload_n 1) 1, hz_r (.bipush 24) 2, hz_n, hz_r (.bipush 8) 2, hz_n, hz_r (.iload_n 2) 1, hz_r (.imul) 1, hz_r (.isub) 1, hz_r (.iushr) 1, hz_r (.sipush 255) 3, hz_n, hz_n, hz_r (.iand) 1],
  [hz_r (.iastore) 1, hz_r (.iinc 2 1) 3, hz_n, hz_n, hz_r (.goto (-32)) 3, hz_n, hz_n, hz_m (.aload_n 0) 1 [] [true, false, false], hz_r (.dup) 1, hz_m (.getfield 15) 3 [7, 1] [], hz_n, hz_n, hz_r (.iconst 4) 1, hz_r (.iadd) 1, hz_m (.putfield 15) 3 [7, 1] [], hz_n],
  [hz_n, hz_r (.iconst 1) 1, hz_r (.ireturn) 1]]
/-- HeavierServes$Text.open(I)V -/
def hs_k65 : hs_K := [
  [hz_r (.aload_n 0) 1, hz_r (.aload_n 0) 1, hz_m (.getfield 15) 3 [7, 1] [], hz_n, hz_n, hz_r (.iload_n 1) 1, hz_m (.invokestatic 19) 3 [3, 2, 1] [], hz_n, hz_n, hz_m (.putfield 25) 3 [7, 2] [], hz_n, hz_n, hz_r (.return_) 1]]
/-- HeavierServes$Text.signAt(I)I -/
def hs_k66 : hs_K := [
  [hz_r (.iload_n 1) 1, hz_r (.ifCond .lt 17) 3, hz_n, hz_n, hz_r (.iload_n 1) 1, hz_r (.aload_n 0) 1, hz_m (.getfield 25) 3 [7, 2] [], hz_n, hz_n, hz_r (.if_icmp .ge 9) 3, hz_n, hz_n, hz_r (.iload_n 1) 1, hz_r (.bipush 80) 2, hz_n, hz_r (.if_icmp .lt 7) 3],
  [hz_n, hz_n, hz_m (.iconst (-1)) 1 [] [false, false], hz_r (.goto 9) 3, hz_n, hz_n, hz_r (.aload_n 0) 1, hz_m (.getfield 11) 3 [7, 0] [], hz_n, hz_n, hz_r (.iload_n 1) 1, hz_r (.iaload) 1, hz_m (.ireturn) 1 [] [false, false]]]
