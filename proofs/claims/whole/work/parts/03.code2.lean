/-! ===== the code rows of the methods, 2 ===== -/
/-- HeavierServes$Text.digitAt(I)I -/
def hs_k67 : hs_K := [
  [hz_m (.aload_n 0) 1 [] [true, true, false], hz_r (.iload_n 1) 1, hz_m (.invokevirtual 28) 3 [66, 2, 1, 7] [], hz_n, hz_n, hz_r (.istore_n 2) 1, hz_r (.iload_n 2) 1, hz_r (.bipush 48) 2, hz_n, hz_r (.if_icmp .lt 16) 3, hz_n, hz_n, hz_m (.iload_n 2) 1 [] [false, false, true], hz_r (.bipush 57) 2, hz_n, hz_r (.if_icmp .gt 10) 3],
  [hz_n, hz_n, hz_m (.iload_n 2) 1 [] [false, false, true], hz_r (.bipush 48) 2, hz_n, hz_r (.isub) 1, hz_r (.goto 4) 3, hz_n, hz_n, hz_m (.iconst (-1)) 1 [] [false, false, false], hz_m (.ireturn) 1 [] [false, false, false]]]
/-- HeavierServes$Town.has(I)Z -/
def hs_k68 : hs_K := [
  [hz_r (.iload_n 1) 1, hz_r (.ifCond .lt 21) 3, hz_n, hz_n, hz_r (.iload_n 1) 1, hz_r (.aload_n 0) 1, hz_m (.getfield 30) 3 [8, 9] [], hz_n, hz_n, hz_r (.if_icmp .ge 13) 3, hz_n, hz_n, hz_m (.iload_n 1) 1 [] [false, true], hz_r (.bipush 8) 2, hz_n, hz_r (.if_icmp .ge 7) 3],
  [hz_n, hz_n, hz_m (.iconst 1) 1 [] [false, false], hz_r (.goto 4) 3, hz_n, hz_n, hz_m (.iconst 0) 1 [] [false, false], hz_m (.ireturn) 1 [] [false, false]]]
/-- HeavierServes$Town.countOneMore()V -/
def hs_k69 : hs_K := [
  [hz_r (.aload_n 0) 1, hz_m (.getfield 30) 3 [8, 9] [], hz_n, hz_n, hz_r (.ifCond .lt 22) 3, hz_n, hz_n, hz_r (.aload_n 0) 1, hz_m (.getfield 30) 3 [8, 9] [], hz_n, hz_n, hz_r (.bipush 8) 2, hz_n, hz_r (.if_icmp .ge 13) 3, hz_n, hz_n],
  [hz_r (.aload_n 0) 1, hz_r (.dup) 1, hz_m (.getfield 30) 3 [8, 9] [], hz_n, hz_n, hz_r (.iconst 1) 1, hz_r (.iadd) 1, hz_m (.putfield 30) 3 [8, 9] [], hz_n, hz_n, hz_m (.return_) 1 [] [false]]]
/-- HeavierServes$Town.everyone()I -/
def hs_k70 : hs_K := [
  [hz_r (.iconst 1) 1, hz_r (.aload_n 0) 1, hz_m (.getfield 30) 3 [8, 9] [], hz_n, hz_n, hz_r (.ishl) 1, hz_r (.iconst 1) 1, hz_r (.isub) 1, hz_r (.ireturn) 1]]
/-- HeavierServes$Town.ofParty(I)I -/
def hs_k71 : hs_K := [
  [hz_m (.iconst 0) 1 [] [true, true, false, false], hz_r (.istore_n 2) 1, hz_r (.iconst 0) 1, hz_r (.istore_n 3) 1, hz_r (.iload_n 3) 1, hz_r (.aload_n 0) 1, hz_m (.getfield 30) 3 [8, 9] [], hz_n, hz_n, hz_r (.if_icmp .ge 25) 3, hz_n, hz_n, hz_r (.aload_n 0) 1, hz_m (.getfield 9) 3 [8, 0] [], hz_n, hz_n],
  [hz_r (.iload_n 3) 1, hz_r (.iaload) 1, hz_r (.iload_n 1) 1, hz_r (.if_icmp .ne 9) 3, hz_n, hz_n, hz_r (.iload_n 2) 1, hz_r (.iconst 1) 1, hz_r (.iload_n 3) 1, hz_r (.ishl) 1, hz_r (.ior) 1, hz_r (.istore_n 2) 1, hz_r (.iinc 3 1) 3, hz_n, hz_n, hz_r (.goto (-27)) 3],
  [hz_n, hz_n, hz_m (.iload_n 2) 1 [] [false, false, true, false], hz_r (.ireturn) 1]]
/-- HeavierServes$Town.arriving(I)I -/
def hs_k72 : hs_K := [
  [hz_r (.iload_n 1) 1, hz_r (.ifCond .lt 9) 3, hz_n, hz_n, hz_r (.iload_n 1) 1, hz_r (.bipush 8) 2, hz_n, hz_r (.if_icmp .lt 7) 3, hz_n, hz_n, hz_m (.iconst 1) 1 [] [false, false], hz_r (.goto 9) 3, hz_n, hz_n, hz_r (.aload_n 0) 1, hz_m (.getfield 24) 3 [8, 4] []],
  [hz_n, hz_n, hz_r (.iload_n 1) 1, hz_r (.iaload) 1, hz_m (.ireturn) 1 [] [false, false]]]
/-- HeavierServes$Town.changeAt(II)I -/
def hs_k73 : hs_K := [
  [hz_m (.iload_n 1) 1 [] [true, true, true, false], hz_r (.bipush 6) 2, hz_n, hz_r (.imul) 1, hz_r (.iload_n 2) 1, hz_r (.iadd) 1, hz_r (.istore_n 3) 1, hz_r (.iload_n 3) 1, hz_r (.ifCond .lt 12) 3, hz_n, hz_n, hz_m (.iload_n 3) 1 [] [true, false, false, true], hz_r (.aload_n 0) 1, hz_m (.getfield 21) 3 [8, 3] [], hz_n, hz_n],
  [hz_r (.arraylength) 1, hz_r (.if_icmp .lt 7) 3, hz_n, hz_n, hz_m (.iconst 0) 1 [] [false, false, false, false], hz_r (.goto 9) 3, hz_n, hz_n, hz_m (.aload_n 0) 1 [] [true, false, false, true], hz_m (.getfield 21) 3 [8, 3] [], hz_n, hz_n, hz_r (.iload_n 3) 1, hz_r (.iaload) 1, hz_m (.ireturn) 1 [] [false, false, false, false]]]
/-- HeavierServes$Town.changeWeights(LHeavierServes$State;)V -/
def hs_k74 : hs_K := [
  [hz_m (.iconst 0) 1 [] [true, true, false, false, false], hz_r (.istore_n 2) 1, hz_m (.iload_n 2) 1 [] [true, true, true, false, false], hz_r (.aload_n 0) 1, hz_m (.getfield 30) 3 [8, 9] [], hz_n, hz_n, hz_r (.if_icmp .ge 66) 3, hz_n, hz_n, hz_m (.aload_n 0) 1 [] [true, true, true, false, false], hz_m (.getfield 18) 3 [8, 2] [], hz_n, hz_n, hz_r (.iload_n 2) 1, hz_r (.iaload) 1],
  [hz_r (.istore_n 3) 1, hz_r (.iload_n 3) 1, hz_r (.ifCond .le 49) 3, hz_n, hz_n, hz_m (.aload_n 1) 1 [] [true, true, true, true, false], hz_r (.iload_n 2) 1, hz_m (.invokevirtual 34) 3 [58, 2, 1, 6] [], hz_n, hz_n, hz_r (.ifCond .eq 41) 3, hz_n, hz_n, hz_m (.aload_n 0) 1 [] [true, true, true, true, false], hz_m (.getfield 21) 3 [8, 3] [], hz_n],
  [hz_n, hz_r (.iload_n 2) 1, hz_r (.bipush 6) 2, hz_n, hz_r (.imul) 1, hz_r (.aload_n 1) 1, hz_m (.getfield 40) 3 [6, 0] [], hz_n, hz_n, hz_r (.iload_n 3) 1, hz_m (.invokestatic 43) 3 [1, 2, 1] [], hz_n, hz_n, hz_r (.iadd) 1, hz_r (.iaload) 1, hz_r (.istore 4) 2],
  [hz_n, hz_r (.aload_n 1) 1, hz_m (.getfield 49) 3 [6, 7] [], hz_n, hz_n, hz_r (.iload_n 2) 1, hz_r (.aload_n 1) 1, hz_m (.getfield 49) 3 [6, 7] [], hz_n, hz_n, hz_r (.iload_n 2) 1, hz_r (.iaload) 1, hz_r (.iload 4) 2, hz_n, hz_r (.iadd) 1, hz_m (.invokestatic 52) 3 [160, 1, 1] []],
  [hz_n, hz_n, hz_r (.iastore) 1, hz_m (.iinc 2 1) 3 [] [true, true, true, false, false], hz_n, hz_n, hz_r (.goto (-68)) 3, hz_n, hz_n, hz_m (.return_) 1 [] [false, false, false, false, false]]]
/-- HeavierServes$Town.weightLater(LHeavierServes$State;II)I -/
def hs_k75 : hs_K := [
  [hz_m (.aload_n 1) 1 [] [true, true, true, true, false, false, false], hz_m (.getfield 49) 3 [6, 7] [], hz_n, hz_n, hz_r (.iload_n 2) 1, hz_r (.iaload) 1, hz_r (.istore 4) 2, hz_n, hz_r (.aload_n 0) 1, hz_m (.getfield 18) 3 [8, 2] [], hz_n, hz_n, hz_r (.iload_n 2) 1, hz_r (.iaload) 1, hz_r (.istore 5) 2, hz_n],
  [hz_r (.iconst 0) 1, hz_r (.istore 6) 2, hz_n, hz_r (.iload 6) 2, hz_n, hz_r (.iload_n 3) 1, hz_r (.if_icmp .ge 39) 3, hz_n, hz_n, hz_r (.iload 5) 2, hz_n, hz_r (.ifCond .le 34) 3, hz_n, hz_n, hz_r (.iload 4) 2, hz_n],
  [hz_r (.aload_n 0) 1, hz_r (.iload_n 2) 1, hz_r (.aload_n 1) 1, hz_m (.getfield 40) 3 [6, 0] [], hz_n, hz_n, hz_r (.iload 6) 2, hz_n, hz_r (.iadd) 1, hz_r (.iload 5) 2, hz_n, hz_m (.invokestatic 43) 3 [1, 2, 1] [], hz_n, hz_n, hz_m (.invokevirtual 56) 3 [73, 3, 1, 8] [], hz_n],
  [hz_n, hz_r (.iadd) 1, hz_m (.invokestatic 52) 3 [160, 1, 1] [], hz_n, hz_n, hz_r (.istore 4) 2, hz_n, hz_r (.iinc 6 1) 3, hz_n, hz_n, hz_r (.goto (-39)) 3, hz_n, hz_n, hz_m (.iload 4) 2 [] [false, false, false, false, true, false, false], hz_n, hz_r (.ireturn) 1]]
/-- HeavierServes$Town.copyPerson(II)V -/
def hs_k76 : hs_K := [
  [hz_r (.aload_n 0) 1, hz_m (.getfield 9) 3 [8, 0] [], hz_n, hz_n, hz_r (.iload_n 2) 1, hz_r (.aload_n 0) 1, hz_m (.getfield 9) 3 [8, 0] [], hz_n, hz_n, hz_r (.iload_n 1) 1, hz_r (.iaload) 1, hz_r (.iastore) 1, hz_r (.aload_n 0) 1, hz_m (.getfield 15) 3 [8, 1] [], hz_n, hz_n],
  [hz_r (.iload_n 2) 1, hz_r (.aload_n 0) 1, hz_m (.getfield 15) 3 [8, 1] [], hz_n, hz_n, hz_r (.iload_n 1) 1, hz_r (.iaload) 1, hz_r (.iastore) 1, hz_r (.aload_n 0) 1, hz_m (.getfield 18) 3 [8, 2] [], hz_n, hz_n, hz_r (.iload_n 2) 1, hz_r (.aload_n 0) 1, hz_m (.getfield 18) 3 [8, 2] [], hz_n],
  [hz_n, hz_r (.iload_n 1) 1, hz_r (.iaload) 1, hz_r (.iastore) 1, hz_r (.aload_n 0) 1, hz_m (.getfield 21) 3 [8, 3] [], hz_n, hz_n, hz_r (.iload_n 1) 1, hz_r (.bipush 6) 2, hz_n, hz_r (.imul) 1, hz_r (.aload_n 0) 1, hz_m (.getfield 21) 3 [8, 3] [], hz_n, hz_n],
  [hz_r (.iload_n 2) 1, hz_r (.bipush 6) 2, hz_n, hz_r (.imul) 1, hz_r (.bipush 6) 2, hz_n, hz_m (.invokestatic 59) 3 [7] [], hz_n, hz_n, hz_r (.return_) 1]]
/-- HeavierServes$Town.readLines(LHeavierServes$Text;)I -/
def hs_k77 : hs_K := [
  [hz_m (.aload_n 1) 1 [] [true, true, false], hz_r (.bipush 76) 2, hz_n, hz_m (.invokevirtual 65) 3 [65, 2, 0, 7] [], hz_n, hz_n, hz_r (.aload_n 0) 1, hz_r (.iconst 0) 1, hz_m (.putfield 71) 3 [8, 7] [], hz_n, hz_n, hz_r (.aload_n 0) 1, hz_r (.iconst 0) 1, hz_m (.putfield 74) 3 [8, 8] [], hz_n, hz_n],
  [hz_r (.aload_n 0) 1, hz_m (.getfield 30) 3 [8, 9] [], hz_n, hz_n, hz_r (.istore_n 2) 1, hz_r (.iload_n 2) 1, hz_r (.bipush 8) 2, hz_n, hz_r (.if_icmp .gt 65) 3, hz_n, hz_n, hz_r (.iload_n 2) 1, hz_r (.bipush 8) 2, hz_n, hz_r (.if_icmp .eq 12) 3, hz_n],
  [hz_n, hz_r (.aload_n 0) 1, hz_r (.aload_n 1) 1, hz_r (.iload_n 2) 1, hz_m (.invokevirtual 77) 3 [79, 3, 1, 8] [], hz_n, hz_n, hz_r (.ifCond .ne 8) 3, hz_n, hz_n, hz_m (.aload_n 0) 1 [] [true, false, false], hz_m (.getfield 71) 3 [8, 7] [], hz_n, hz_n, hz_r (.ireturn) 1, hz_r (.aload_n 0) 1],
  [hz_r (.dup) 1, hz_m (.getfield 74) 3 [8, 8] [], hz_n, hz_n, hz_r (.iconst 1) 1, hz_r (.iadd) 1, hz_m (.putfield 74) 3 [8, 8] [], hz_n, hz_n, hz_r (.aload_n 1) 1, hz_r (.aload_n 0) 1, hz_m (.getfield 71) 3 [8, 7] [], hz_n, hz_n, hz_m (.invokevirtual 81) 3 [66, 2, 1, 7] [], hz_n],
  [hz_n, hz_r (.bipush 59) 2, hz_n, hz_r (.if_icmp .eq 6) 3, hz_n, hz_n, hz_m (.goto 19) 3 [] [true, true, false], hz_n, hz_n, hz_r (.aload_n 0) 1, hz_r (.dup) 1, hz_m (.getfield 71) 3 [8, 7] [], hz_n, hz_n, hz_r (.iconst 1) 1, hz_r (.iadd) 1],
  [hz_m (.putfield 71) 3 [8, 7] [], hz_n, hz_n, hz_r (.iinc 2 1) 3, hz_n, hz_n, hz_r (.goto (-65)) 3, hz_n, hz_n, hz_m (.aload_n 0) 1 [] [true, true, false], hz_m (.getfield 71) 3 [8, 7] [], hz_n, hz_n, hz_r (.aload_n 1) 1, hz_m (.getfield 84) 3 [7, 1] [], hz_n],
  [hz_n, hz_r (.if_icmp .ge 10) 3, hz_n, hz_n, hz_m (.aload_n 0) 1 [] [true, false, false], hz_m (.getfield 71) 3 [8, 7] [], hz_n, hz_n, hz_r (.goto 4) 3, hz_n, hz_n, hz_m (.iconst (-1)) 1 [] [false, false, false], hz_m (.ireturn) 1 [] [false, false, false]]]
/-- HeavierServes$Town.readHabit(LHeavierServes$Text;I)I -/
def hs_k78 : hs_K := [
  [hz_r (.aload_n 1) 1, hz_r (.bipush 12) 2, hz_n, hz_m (.invokevirtual 65) 3 [65, 2, 0, 7] [], hz_n, hz_n, hz_r (.aload_n 0) 1, hz_r (.iconst 0) 1, hz_m (.putfield 71) 3 [8, 7] [], hz_n, hz_n, hz_r (.aload_n 0) 1, hz_r (.aload_n 1) 1, hz_m (.invokevirtual 87) 3 [82, 2, 1, 8] [], hz_n, hz_n],
  [hz_r (.ifCond .eq 14) 3, hz_n, hz_n, hz_r (.aload_n 0) 1, hz_m (.getfield 71) 3 [8, 7] [], hz_n, hz_n, hz_r (.aload_n 1) 1, hz_m (.getfield 84) 3 [7, 1] [], hz_n, hz_n, hz_r (.if_icmp .ge 8) 3, hz_n, hz_n, hz_m (.aload_n 0) 1 [] [true, false, false], hz_m (.getfield 71) 3 [8, 7] []],
  [hz_n, hz_n, hz_r (.ireturn) 1, hz_m (.aload_n 0) 1 [] [true, false, true], hz_r (.iload_n 2) 1, hz_m (.invokevirtual 91) 3 [84, 2, 0, 8] [], hz_n, hz_n, hz_r (.iconst (-1)) 1, hz_r (.ireturn) 1]]
/-- HeavierServes$Town.readLine(LHeavierServes$Text;I)Z -/
def hs_k79 : hs_K := [
  [hz_r (.aload_n 0) 1, hz_r (.aload_n 1) 1, hz_r (.iload_n 2) 1, hz_m (.invokevirtual 94) 3 [80, 3, 1, 8] [], hz_n, hz_n, hz_r (.ifCond .eq 20) 3, hz_n, hz_n, hz_r (.aload_n 0) 1, hz_r (.aload_n 1) 1, hz_r (.iload_n 2) 1, hz_m (.invokevirtual 97) 3 [81, 3, 1, 8] [], hz_n, hz_n, hz_r (.ifCond .eq 11) 3],
  [hz_n, hz_n, hz_r (.aload_n 0) 1, hz_r (.aload_n 1) 1, hz_m (.invokevirtual 87) 3 [82, 2, 1, 8] [], hz_n, hz_n, hz_r (.ifCond .ne 5) 3, hz_n, hz_n, hz_m (.iconst 0) 1 [] [false, false, false], hz_r (.ireturn) 1, hz_m (.aload_n 0) 1 [] [true, false, true], hz_r (.iload_n 2) 1, hz_m (.invokevirtual 91) 3 [84, 2, 0, 8] [], hz_n],
  [hz_n, hz_r (.aload_n 0) 1, hz_m (.getfield 15) 3 [8, 1] [], hz_n, hz_n, hz_r (.iload_n 2) 1, hz_r (.iconst 0) 1, hz_r (.iastore) 1, hz_r (.iconst 1) 1, hz_r (.ireturn) 1]]
/-- HeavierServes$Town.readWeight(LHeavierServes$Text;I)Z -/
def hs_k80 : hs_K := [
  [hz_m (.iconst 0) 1 [] [true, true, true, false, false], hz_r (.istore_n 3) 1, hz_r (.iconst 0) 1, hz_r (.istore 4) 2, hz_n, hz_r (.iload 4) 2, hz_n, hz_r (.iconst 3) 1, hz_r (.if_icmp .ge 45) 3, hz_n, hz_n, hz_r (.aload_n 1) 1, hz_r (.aload_n 0) 1, hz_m (.getfield 71) 3 [8, 7] [], hz_n, hz_n],
  [hz_m (.invokevirtual 100) 3 [67, 2, 1, 7] [], hz_n, hz_n, hz_r (.iconst (-1)) 1, hz_r (.if_icmp .eq 33) 3, hz_n, hz_n, hz_r (.iload_n 3) 1, hz_r (.bipush 10) 2, hz_n, hz_r (.imul) 1, hz_r (.aload_n 1) 1, hz_r (.aload_n 0) 1, hz_m (.getfield 71) 3 [8, 7] [], hz_n, hz_n],
  [hz_m (.invokevirtual 100) 3 [67, 2, 1, 7] [], hz_n, hz_n, hz_r (.iadd) 1, hz_r (.istore_n 3) 1, hz_r (.aload_n 0) 1, hz_r (.dup) 1, hz_m (.getfield 71) 3 [8, 7] [], hz_n, hz_n, hz_r (.iconst 1) 1, hz_r (.iadd) 1, hz_m (.putfield 71) 3 [8, 7] [], hz_n, hz_n, hz_r (.iinc 4 1) 3],
  [hz_n, hz_n, hz_r (.goto (-45)) 3, hz_n, hz_n, hz_m (.iload 4) 2 [] [true, false, true, true, true], hz_n, hz_r (.ifCond .le 17) 3, hz_n, hz_n, hz_m (.iload_n 3) 1 [] [true, false, true, true, false], hz_r (.ifCond .ne 13) 3, hz_n, hz_n, hz_m (.aload_n 0) 1 [] [true, false, true, true, false], hz_r (.dup) 1],
  [hz_m (.getfield 71) 3 [8, 7] [], hz_n, hz_n, hz_r (.iconst 1) 1, hz_r (.isub) 1, hz_m (.putfield 71) 3 [8, 7] [], hz_n, hz_n, hz_m (.aload_n 0) 1 [] [true, false, true, true, false], hz_m (.getfield 24) 3 [8, 4] [], hz_n, hz_n, hz_r (.iload_n 2) 1, hz_r (.iload_n 3) 1, hz_r (.iastore) 1, hz_r (.iload_n 3) 1],
  [hz_r (.ifCond .le 7) 3, hz_n, hz_n, hz_m (.iconst 1) 1 [] [false, false, false, false, false], hz_r (.goto 4) 3, hz_n, hz_n, hz_m (.iconst 0) 1 [] [false, false, false, false, false], hz_m (.ireturn) 1 [] [false, false, false, false, false]]]
/-- HeavierServes$Town.readParty(LHeavierServes$Text;I)Z -/
def hs_k81 : hs_K := [
  [hz_m (.aload_n 0) 1 [] [true, true, true, false], hz_m (.getfield 9) 3 [8, 0] [], hz_n, hz_n, hz_r (.iload_n 2) 1, hz_r (.iconst 0) 1, hz_r (.iastore) 1, hz_r (.aload_n 1) 1, hz_r (.aload_n 0) 1, hz_m (.getfield 71) 3 [8, 7] [], hz_n, hz_n, hz_m (.invokevirtual 81) 3 [66, 2, 1, 7] [], hz_n, hz_n, hz_r (.bipush 42) 2],
  [hz_n, hz_r (.if_icmp .eq 5) 3, hz_n, hz_n, hz_m (.iconst 1) 1 [] [false, false, false, false], hz_r (.ireturn) 1, hz_m (.aload_n 0) 1 [] [true, true, true, false], hz_r (.dup) 1, hz_m (.getfield 71) 3 [8, 7] [], hz_n, hz_n, hz_r (.iconst 1) 1, hz_r (.iadd) 1, hz_m (.putfield 71) 3 [8, 7] [], hz_n, hz_n],
  [hz_r (.aload_n 1) 1, hz_r (.aload_n 0) 1, hz_m (.getfield 71) 3 [8, 7] [], hz_n, hz_n, hz_m (.invokevirtual 100) 3 [67, 2, 1, 7] [], hz_n, hz_n, hz_r (.istore_n 3) 1, hz_r (.iload_n 3) 1, hz_r (.iconst (-1)) 1, hz_r (.if_icmp .eq 8) 3, hz_n, hz_n, hz_m (.iload_n 3) 1 [] [true, false, true, true], hz_r (.iconst 4) 1],
  [hz_r (.if_icmp .lt 5) 3, hz_n, hz_n, hz_m (.iconst 0) 1 [] [false, false, false, false], hz_r (.ireturn) 1, hz_m (.aload_n 0) 1 [] [true, false, true, true], hz_m (.getfield 9) 3 [8, 0] [], hz_n, hz_n, hz_r (.iload_n 2) 1, hz_r (.iload_n 3) 1, hz_r (.iastore) 1, hz_r (.aload_n 0) 1, hz_r (.dup) 1, hz_m (.getfield 71) 3 [8, 7] [], hz_n],
  [hz_n, hz_r (.iconst 1) 1, hz_r (.iadd) 1, hz_m (.putfield 71) 3 [8, 7] [], hz_n, hz_n, hz_r (.iconst 1) 1, hz_r (.ireturn) 1]]
/-- HeavierServes$Town.readChanges(LHeavierServes$Text;)Z -/
def hs_k82 : hs_K := [
  [hz_m (.aload_n 0) 1 [] [true, true, false, false], hz_r (.iconst 0) 1, hz_m (.putfield 103) 3 [8, 6] [], hz_n, hz_n, hz_r (.iconst 0) 1, hz_r (.istore_n 2) 1, hz_m (.iload_n 2) 1 [] [true, true, true, false], hz_r (.bipush 6) 2, hz_n, hz_r (.if_icmp .ge 98) 3, hz_n, hz_n, hz_m (.aload_n 1) 1 [] [true, true, true, false], hz_r (.aload_n 0) 1, hz_m (.getfield 71) 3 [8, 7] []],
  [hz_n, hz_n, hz_m (.invokevirtual 81) 3 [66, 2, 1, 7] [], hz_n, hz_n, hz_m (.invokestatic 106) 3 [83, 1, 1] [], hz_n, hz_n, hz_r (.ifCond .ne 5) 3, hz_n, hz_n, hz_m (.iconst 1) 1 [] [false, false, false, false], hz_r (.ireturn) 1, hz_m (.aload_n 1) 1 [] [true, true, true, false], hz_r (.aload_n 0) 1, hz_m (.getfield 71) 3 [8, 7] []],
  [hz_n, hz_n, hz_r (.iconst 1) 1, hz_r (.iadd) 1, hz_m (.invokevirtual 100) 3 [67, 2, 1, 7] [], hz_n, hz_n, hz_r (.istore_n 3) 1, hz_r (.iload_n 3) 1, hz_r (.iconst (-1)) 1, hz_r (.if_icmp .ne 15) 3, hz_n, hz_n, hz_m (.aload_n 0) 1 [] [true, false, false, false], hz_r (.dup) 1, hz_m (.getfield 71) 3 [8, 7] []],
  [hz_n, hz_n, hz_r (.iconst 1) 1, hz_r (.iadd) 1, hz_m (.putfield 71) 3 [8, 7] [], hz_n, hz_n, hz_r (.iconst 0) 1, hz_r (.ireturn) 1, hz_r (.aload_n 0) 1, hz_m (.getfield 27) 3 [8, 5] [], hz_n, hz_n, hz_r (.iload_n 2) 1, hz_r (.aload_n 1) 1, hz_r (.aload_n 0) 1],
  [hz_m (.getfield 71) 3 [8, 7] [], hz_n, hz_n, hz_m (.invokevirtual 81) 3 [66, 2, 1, 7] [], hz_n, hz_n, hz_r (.bipush 43) 2, hz_n, hz_r (.if_icmp .ne 7) 3, hz_n, hz_n, hz_r (.iload_n 3) 1, hz_r (.goto 5) 3, hz_n, hz_n, hz_r (.iload_n 3) 1],
  [hz_r (.ineg) 1, hz_m (.iastore) 1 [] [true, true, true, false], hz_r (.aload_n 0) 1, hz_r (.dup) 1, hz_m (.getfield 103) 3 [8, 6] [], hz_n, hz_n, hz_r (.iconst 1) 1, hz_r (.iadd) 1, hz_m (.putfield 103) 3 [8, 6] [], hz_n, hz_n, hz_r (.aload_n 0) 1, hz_r (.dup) 1, hz_m (.getfield 71) 3 [8, 7] [], hz_n],
  [hz_n, hz_r (.iconst 2) 1, hz_r (.iadd) 1, hz_m (.putfield 71) 3 [8, 7] [], hz_n, hz_n, hz_r (.iinc 2 1) 3, hz_n, hz_n, hz_r (.goto (-98)) 3, hz_n, hz_n, hz_m (.aload_n 1) 1 [] [true, true, false, false], hz_r (.aload_n 0) 1, hz_m (.getfield 71) 3 [8, 7] [], hz_n],
  [hz_n, hz_m (.invokevirtual 81) 3 [66, 2, 1, 7] [], hz_n, hz_n, hz_m (.invokestatic 106) 3 [83, 1, 1] [], hz_n, hz_n, hz_r (.ifCond .ne 7) 3, hz_n, hz_n, hz_m (.iconst 1) 1 [] [false, false, false, false], hz_r (.goto 4) 3, hz_n, hz_n, hz_m (.iconst 0) 1 [] [false, false, false, false], hz_m (.ireturn) 1 [] [false, false, false, false]]]
/-- HeavierServes$Town.isChangeSign(I)Z -/
def hs_k83 : hs_K := [
  [hz_r (.iload_n 0) 1, hz_r (.bipush 43) 2, hz_n, hz_r (.if_icmp .eq 9) 3, hz_n, hz_n, hz_r (.iload_n 0) 1, hz_r (.bipush 45) 2, hz_n, hz_r (.if_icmp .ne 7) 3, hz_n, hz_n, hz_m (.iconst 1) 1 [] [false], hz_r (.goto 4) 3, hz_n, hz_n],
  [hz_m (.iconst 0) 1 [] [false], hz_m (.ireturn) 1 [] [false]]]
/-- HeavierServes$Town.takeDraft(I)V -/
def hs_k84 : hs_K := [
  [hz_r (.aload_n 0) 1, hz_m (.getfield 18) 3 [8, 2] [], hz_n, hz_n, hz_r (.iload_n 1) 1, hz_r (.aload_n 0) 1, hz_m (.getfield 103) 3 [8, 6] [], hz_n, hz_n, hz_r (.iastore) 1, hz_r (.aload_n 0) 1, hz_m (.getfield 27) 3 [8, 5] [], hz_n, hz_n, hz_r (.iconst 0) 1, hz_r (.aload_n 0) 1],
  [hz_m (.getfield 21) 3 [8, 3] [], hz_n, hz_n, hz_r (.iload_n 1) 1, hz_r (.bipush 6) 2, hz_n, hz_r (.imul) 1, hz_r (.bipush 6) 2, hz_n, hz_m (.invokestatic 59) 3 [7] [], hz_n, hz_n, hz_r (.return_) 1]]
/-- HeavierServes$Trials.feast(II)V -/
def hs_k85 : hs_K := [
  [hz_r (.aload_n 0) 1, hz_m (.getfield 12) 3 [9, 4] [], hz_n, hz_n, hz_r (.aload_n 0) 1, hz_m (.getfield 22) 3 [9, 0] [], hz_n, hz_n, hz_m (.invokevirtual 37) 3 [55, 2, 0, 6] [], hz_n, hz_n, hz_r (.aload_n 0) 1, hz_m (.getfield 12) 3 [9, 4] [], hz_n, hz_n, hz_r (.iload_n 1) 1],
  [hz_r (.aload_n 0) 1, hz_m (.getfield 22) 3 [9, 0] [], hz_n, hz_n, hz_m (.getfield 41) 3 [6, 7] [], hz_n, hz_n, hz_r (.iload_n 1) 1, hz_r (.iaload) 1, hz_r (.iload_n 2) 1, hz_r (.iadd) 1, hz_m (.invokevirtual 44) 3 [59, 3, 0, 6] [], hz_n, hz_n, hz_r (.return_) 1]]
/-- HeavierServes$Trials.cakesWorthTrying(I)I -/
def hs_k86 : hs_K := [
  [hz_r (.sipush 999) 3, hz_n, hz_n, hz_r (.sipush 999) 3, hz_n, hz_n, hz_r (.aload_n 0) 1, hz_m (.getfield 22) 3 [9, 0] [], hz_n, hz_n, hz_m (.getfield 41) 3 [6, 7] [], hz_n, hz_n, hz_r (.iload_n 1) 1, hz_r (.iaload) 1, hz_r (.isub) 1],
  [hz_m (.invokestatic 48) 3 [3, 2, 1] [], hz_n, hz_n, hz_r (.ireturn) 1]]
/-- HeavierServes$Trials.cakesToStay(II)I -/
def hs_k87 : hs_K := [
  [hz_m (.aload_n 0) 1 [] [true, true, true, false, false, false], hz_r (.iload_n 1) 1, hz_m (.invokevirtual 54) 3 [86, 2, 1, 9] [], hz_n, hz_n, hz_r (.istore_n 3) 1, hz_r (.iconst 0) 1, hz_r (.istore 4) 2, hz_n, hz_m (.iload 4) 2 [] [true, true, true, true, true, false], hz_n, hz_r (.iload_n 3) 1, hz_r (.if_icmp .gt 71) 3, hz_n, hz_n, hz_m (.aload_n 0) 1 [] [true, true, true, true, true, false]],
  [hz_r (.iload_n 1) 1, hz_r (.iload 4) 2, hz_n, hz_m (.invokevirtual 58) 3 [85, 3, 0, 9] [], hz_n, hz_n, hz_r (.iconst 0) 1, hz_r (.istore 5) 2, hz_n, hz_r (.iload 5) 2, hz_n, hz_r (.iload_n 2) 1, hz_r (.if_icmp .ge 35) 3, hz_n, hz_n, hz_r (.aload_n 0) 1],
  [hz_m (.getfield 12) 3 [9, 4] [], hz_n, hz_n, hz_m (.getfield 61) 3 [6, 1] [], hz_n, hz_n, hz_r (.iload_n 1) 1, hz_r (.if_icmp .ne 24) 3, hz_n, hz_n, hz_r (.aload_n 0) 1, hz_m (.getfield 29) 3 [9, 2] [], hz_n, hz_n, hz_r (.aload_n 0) 1, hz_m (.getfield 12) 3 [9, 4] []],
  [hz_n, hz_n, hz_r (.iconst 0) 1, hz_r (.sipush 255) 3, hz_n, hz_n, hz_m (.invokevirtual 65) 3 [30, 4, 0, 1] [], hz_n, hz_n, hz_r (.iinc 5 1) 3, hz_n, hz_n, hz_r (.goto (-35)) 3, hz_n, hz_n, hz_m (.aload_n 0) 1 [] [true, true, true, true, true, false]],
  [hz_m (.getfield 12) 3 [9, 4] [], hz_n, hz_n, hz_m (.getfield 61) 3 [6, 1] [], hz_n, hz_n, hz_r (.iload_n 1) 1, hz_r (.if_icmp .ne 6) 3, hz_n, hz_n, hz_m (.iload 4) 2 [] [false, false, false, false, true, false], hz_n, hz_r (.ireturn) 1, hz_m (.iinc 4 1) 3 [] [true, true, true, true, true, false], hz_n, hz_n],
  [hz_r (.goto (-71)) 3, hz_n, hz_n, hz_m (.bipush (-2)) 2 [] [false, false, false, false, false, false], hz_n, hz_r (.ireturn) 1]]
/-- HeavierServes$Trials.cakesToServe(II)I -/
def hs_k88 : hs_K := [
  [hz_m (.aload_n 0) 1 [] [true, true, true, false, false, false], hz_r (.iload_n 1) 1, hz_m (.invokevirtual 54) 3 [86, 2, 1, 9] [], hz_n, hz_n, hz_r (.istore_n 3) 1, hz_r (.iconst 0) 1, hz_r (.istore 4) 2, hz_n, hz_m (.iload 4) 2 [] [true, true, true, true, true, false], hz_n, hz_r (.iload_n 3) 1, hz_r (.if_icmp .gt 87) 3, hz_n, hz_n, hz_m (.aload_n 0) 1 [] [true, true, true, true, true, false]],
  [hz_r (.iload_n 1) 1, hz_r (.iload 4) 2, hz_n, hz_m (.invokevirtual 58) 3 [85, 3, 0, 9] [], hz_n, hz_n, hz_r (.iconst 0) 1, hz_r (.istore 5) 2, hz_n, hz_r (.iload 5) 2, hz_n, hz_r (.iload_n 2) 1, hz_r (.if_icmp .ge 24) 3, hz_n, hz_n, hz_r (.aload_n 0) 1],
  [hz_m (.getfield 29) 3 [9, 2] [], hz_n, hz_n, hz_r (.aload_n 0) 1, hz_m (.getfield 12) 3 [9, 4] [], hz_n, hz_n, hz_r (.iconst 0) 1, hz_r (.sipush 255) 3, hz_n, hz_n, hz_m (.invokevirtual 65) 3 [30, 4, 0, 1] [], hz_n, hz_n, hz_r (.iinc 5 1) 3, hz_n],
  [hz_n, hz_r (.goto (-24)) 3, hz_n, hz_n, hz_m (.aload_n 0) 1 [] [true, true, true, true, true, false], hz_m (.getfield 12) 3 [9, 4] [], hz_n, hz_n, hz_m (.getfield 61) 3 [6, 1] [], hz_n, hz_n, hz_r (.iload_n 1) 1, hz_r (.if_icmp .ne 33) 3, hz_n, hz_n, hz_m (.aload_n 0) 1 [] [true, true, false, false, true, false]],
  [hz_m (.getfield 33) 3 [9, 3] [], hz_n, hz_n, hz_r (.aload_n 0) 1, hz_m (.getfield 12) 3 [9, 4] [], hz_n, hz_n, hz_m (.getfield 71) 3 [6, 8] [], hz_n, hz_n, hz_r (.iload_n 1) 1, hz_r (.iaload) 1, hz_r (.aload_n 0) 1, hz_m (.getfield 22) 3 [9, 0] [], hz_n, hz_n],
  [hz_m (.getfield 71) 3 [6, 8] [], hz_n, hz_n, hz_r (.iload_n 1) 1, hz_r (.iaload) 1, hz_r (.isub) 1, hz_r (.i2l) 1, hz_m (.invokevirtual 74) 3 [45, 2, 0, 4] [], hz_n, hz_n, hz_r (.iload 4) 2, hz_n, hz_r (.ireturn) 1, hz_m (.iinc 4 1) 3 [] [true, true, true, true, true, false], hz_n, hz_n],
  [hz_r (.goto (-87)) 3, hz_n, hz_n, hz_m (.bipush (-2)) 2 [] [false, false, false, false, false, false], hz_n, hz_r (.ireturn) 1]]
/-- HeavierServes$Trials.ouncesToMiss(II)I -/
def hs_k89 : hs_K := [
  [hz_m (.iconst 0) 1 [] [true, true, true, false, false], hz_r (.istore_n 3) 1, hz_m (.iload_n 3) 1 [] [true, true, true, true, false], hz_r (.aload_n 0) 1, hz_m (.getfield 22) 3 [9, 0] [], hz_n, hz_n, hz_m (.getfield 41) 3 [6, 7] [], hz_n, hz_n, hz_r (.iload_n 1) 1, hz_r (.iaload) 1, hz_r (.if_icmp .ge 90) 3, hz_n, hz_n, hz_m (.aload_n 0) 1 [] [true, true, true, true, false]],
  [hz_r (.iload_n 1) 1, hz_r (.iload_n 3) 1, hz_r (.ineg) 1, hz_m (.invokevirtual 58) 3 [85, 3, 0, 9] [], hz_n, hz_n, hz_r (.iconst 0) 1, hz_r (.istore 4) 2, hz_n, hz_r (.iload 4) 2, hz_n, hz_r (.iload_n 2) 1, hz_r (.if_icmp .ge 45) 3, hz_n, hz_n, hz_r (.aload_n 0) 1],
  [hz_m (.getfield 12) 3 [9, 4] [], hz_n, hz_n, hz_m (.getfield 71) 3 [6, 8] [], hz_n, hz_n, hz_r (.iload_n 1) 1, hz_r (.iaload) 1, hz_r (.aload_n 0) 1, hz_m (.getfield 22) 3 [9, 0] [], hz_n, hz_n, hz_m (.getfield 71) 3 [6, 8] [], hz_n, hz_n, hz_r (.iload_n 1) 1],
  [hz_r (.iaload) 1, hz_r (.if_icmp .ne 24) 3, hz_n, hz_n, hz_r (.aload_n 0) 1, hz_m (.getfield 29) 3 [9, 2] [], hz_n, hz_n, hz_r (.aload_n 0) 1, hz_m (.getfield 12) 3 [9, 4] [], hz_n, hz_n, hz_r (.iconst 0) 1, hz_r (.sipush 255) 3, hz_n, hz_n],
  [hz_m (.invokevirtual 65) 3 [30, 4, 0, 1] [], hz_n, hz_n, hz_r (.iinc 4 1) 3, hz_n, hz_n, hz_r (.goto (-45)) 3, hz_n, hz_n, hz_m (.aload_n 0) 1 [] [true, true, true, true, false], hz_m (.getfield 12) 3 [9, 4] [], hz_n, hz_n, hz_m (.getfield 71) 3 [6, 8] [], hz_n, hz_n],
  [hz_r (.iload_n 1) 1, hz_r (.iaload) 1, hz_r (.aload_n 0) 1, hz_m (.getfield 22) 3 [9, 0] [], hz_n, hz_n, hz_m (.getfield 71) 3 [6, 8] [], hz_n, hz_n, hz_r (.iload_n 1) 1, hz_r (.iaload) 1, hz_r (.if_icmp .ne 5) 3, hz_n, hz_n, hz_m (.iload_n 3) 1 [] [false, false, false, true, false], hz_r (.ireturn) 1],
  [hz_m (.iinc 3 1) 3 [] [true, true, true, true, false], hz_n, hz_n, hz_r (.goto (-97)) 3, hz_n, hz_n, hz_m (.bipush (-2)) 2 [] [false, false, false, false, false], hz_n, hz_r (.ireturn) 1]]
/-- HeavierServes$Trials.leastFed()I -/
def hs_k90 : hs_K := [
  [hz_m (.bipush (-2)) 2 [] [true, false, false, false, false], hz_n, hz_r (.istore_n 1) 1, hz_r (.sipush 1000) 3, hz_n, hz_n, hz_r (.istore_n 2) 1, hz_r (.iconst 0) 1, hz_r (.istore_n 3) 1, hz_m (.iload_n 3) 1 [] [true, true, true, true, false], hz_r (.aload_n 0) 1, hz_m (.getfield 25) 3 [9, 1] [], hz_n, hz_n, hz_m (.getfield 80) 3 [8, 9] [], hz_n],
  [hz_n, hz_r (.if_icmp .ge 45) 3, hz_n, hz_n, hz_m (.aload_n 0) 1 [] [true, true, true, true, false], hz_m (.getfield 22) 3 [9, 0] [], hz_n, hz_n, hz_r (.iload_n 3) 1, hz_m (.invokevirtual 85) 3 [58, 2, 1, 6] [], hz_n, hz_n, hz_r (.ifCond .eq 14) 3, hz_n, hz_n, hz_m (.aload_n 0) 1 [] [true, true, true, true, false]],
  [hz_r (.iload_n 3) 1, hz_r (.iload_n 2) 1, hz_r (.iconst 1) 1, hz_r (.isub) 1, hz_m (.invokevirtual 89) 3 [91, 3, 1, 9] [], hz_n, hz_n, hz_r (.goto 4) 3, hz_n, hz_n, hz_m (.iconst (-1)) 1 [] [true, true, true, true, false], hz_m (.istore 4) 2 [] [true, true, true, true, false], hz_n, hz_r (.iload 4) 2, hz_n, hz_r (.iconst (-1)) 1],
  [hz_r (.if_icmp .eq 8) 3, hz_n, hz_n, hz_m (.iload_n 3) 1 [] [true, false, false, true, true], hz_r (.istore_n 1) 1, hz_r (.iload 4) 2, hz_n, hz_r (.istore_n 2) 1, hz_m (.iinc 3 1) 3 [] [true, true, true, true, false], hz_n, hz_n, hz_r (.goto (-50)) 3, hz_n, hz_n, hz_m (.iload_n 1) 1 [] [true, true, true, false, false], hz_r (.ifCond .lt 12) 3],
  [hz_n, hz_n, hz_m (.aload_n 0) 1 [] [true, true, true, false, false], hz_m (.getfield 33) 3 [9, 3] [], hz_n, hz_n, hz_r (.iload_n 2) 1, hz_r (.i2l) 1, hz_m (.invokevirtual 74) 3 [45, 2, 0, 4] [], hz_n, hz_n, hz_m (.iload_n 1) 1 [] [false, true, false, false, false], hz_r (.ireturn) 1]]
/-- HeavierServes$Trials.cakesForNextWeek(II)I -/
def hs_k91 : hs_K := [
  [hz_m (.iload_n 2) 1 [] [true, true, true, false, false, false], hz_r (.aload_n 0) 1, hz_r (.iload_n 1) 1, hz_m (.invokevirtual 54) 3 [86, 2, 1, 9] [], hz_n, hz_n, hz_m (.invokestatic 48) 3 [3, 2, 1] [], hz_n, hz_n, hz_r (.istore_n 3) 1, hz_r (.iconst 0) 1, hz_r (.istore 4) 2, hz_n, hz_m (.iload 4) 2 [] [true, true, false, true, true, false], hz_n, hz_r (.iload_n 3) 1],
  [hz_r (.if_icmp .gt 67) 3, hz_n, hz_n, hz_m (.aload_n 0) 1 [] [true, true, false, true, true, false], hz_r (.iload_n 1) 1, hz_r (.iload 4) 2, hz_n, hz_m (.invokevirtual 58) 3 [85, 3, 0, 9] [], hz_n, hz_n, hz_r (.aload_n 0) 1, hz_m (.getfield 29) 3 [9, 2] [], hz_n, hz_n, hz_r (.aload_n 0) 1, hz_m (.getfield 12) 3 [9, 4] []],
  [hz_n, hz_n, hz_r (.iconst 1) 1, hz_r (.iload_n 1) 1, hz_r (.ishl) 1, hz_r (.sipush 255) 3, hz_n, hz_n, hz_r (.iconst 1) 1, hz_r (.iload_n 1) 1, hz_r (.ishl) 1, hz_r (.iconst (-1)) 1, hz_r (.ixor) 1, hz_r (.iand) 1, hz_m (.invokevirtual 92) 3 [32, 4, 1, 1] [], hz_n],
  [hz_n, hz_r (.istore 5) 2, hz_n, hz_r (.iload 5) 2, hz_n, hz_r (.iload_n 1) 1, hz_r (.if_icmp .eq 20) 3, hz_n, hz_n, hz_m (.iload 5) 2 [] [true, true, false, true, true, true], hz_n, hz_r (.iconst (-1)) 1, hz_r (.if_icmp .ne 17) 3, hz_n, hz_n, hz_m (.aload_n 0) 1 [] [true, true, false, true, true, false]],
  [hz_m (.getfield 22) 3 [9, 0] [], hz_n, hz_n, hz_m (.getfield 61) 3 [6, 1] [], hz_n, hz_n, hz_r (.iload_n 1) 1, hz_r (.if_icmp .ne 6) 3, hz_n, hz_n, hz_m (.iload 4) 2 [] [false, false, false, false, true, false], hz_n, hz_r (.ireturn) 1, hz_m (.iinc 4 1) 3 [] [true, true, false, true, true, false], hz_n, hz_n],
  [hz_r (.goto (-67)) 3, hz_n, hz_n, hz_m (.iconst (-1)) 1 [] [false, false, false, false, false, false], hz_r (.ireturn) 1]]
/-- HeavierServes$Trials.gather(LHeavierServes$Pairs;)Z -/
def hs_k92 : hs_K := [
  [hz_m (.aload_n 0) 1 [] [true, true, false, false, false], hz_r (.iconst 0) 1, hz_m (.putfield 96) 3 [9, 6] [], hz_n, hz_n, hz_r (.iconst 0) 1, hz_r (.istore_n 2) 1, hz_m (.iload_n 2) 1 [] [true, true, true, false, false], hz_r (.bipush 60) 2, hz_n, hz_r (.if_icmp .gt 16) 3, hz_n, hz_n, hz_m (.aload_n 0) 1 [] [true, true, true, false, false], hz_m (.getfield 18) 3 [9, 5] [], hz_n],
  [hz_n, hz_r (.iload_n 2) 1, hz_r (.iconst (-1)) 1, hz_r (.iastore) 1, hz_r (.iinc 2 1) 3, hz_n, hz_n, hz_r (.goto (-16)) 3, hz_n, hz_n, hz_m (.iconst 0) 1 [] [true, true, false, false, false], hz_r (.istore_n 2) 1, hz_m (.iload_n 2) 1 [] [true, true, true, false, false], hz_r (.aload_n 1) 1, hz_m (.getfield 99) 3 [2, 2] [], hz_n],
  [hz_n, hz_r (.if_icmp .ge 75) 3, hz_n, hz_n, hz_m (.aload_n 1) 1 [] [true, true, true, false, false], hz_r (.iload_n 2) 1, hz_m (.invokevirtual 104) 3 [39, 2, 1, 2] [], hz_n, hz_n, hz_r (.istore_n 3) 1, hz_r (.aload_n 1) 1, hz_r (.iload_n 2) 1, hz_m (.invokevirtual 107) 3 [38, 2, 1, 2] [], hz_n, hz_n, hz_r (.istore 4) 2],
  [hz_n, hz_r (.iload_n 3) 1, hz_r (.ifCond .lt 30) 3, hz_n, hz_n, hz_r (.iload_n 3) 1, hz_r (.bipush 60) 2, hz_n, hz_r (.if_icmp .gt 24) 3, hz_n, hz_n, hz_r (.aload_n 0) 1, hz_m (.getfield 18) 3 [9, 5] [], hz_n, hz_n, hz_r (.iload_n 3) 1],
  [hz_r (.iaload) 1, hz_r (.iconst (-1)) 1, hz_r (.if_icmp .eq 16) 3, hz_n, hz_n, hz_r (.aload_n 0) 1, hz_m (.getfield 18) 3 [9, 5] [], hz_n, hz_n, hz_r (.iload_n 3) 1, hz_r (.iaload) 1, hz_r (.iload 4) 2, hz_n, hz_r (.if_icmp .eq 5) 3, hz_n, hz_n],
  [hz_m (.iconst 0) 1 [] [false, false, false, false, false], hz_r (.ireturn) 1, hz_r (.aload_n 0) 1, hz_m (.getfield 18) 3 [9, 5] [], hz_n, hz_n, hz_r (.iload_n 3) 1, hz_r (.iload 4) 2, hz_n, hz_r (.iastore) 1, hz_r (.aload_n 0) 1, hz_r (.aload_n 0) 1, hz_m (.getfield 96) 3 [9, 6] [], hz_n, hz_n, hz_r (.iload_n 3) 1],
  [hz_m (.invokestatic 110) 3 [2, 2, 1] [], hz_n, hz_n, hz_m (.putfield 96) 3 [9, 6] [], hz_n, hz_n, hz_r (.iinc 2 1) 3, hz_n, hz_n, hz_r (.goto (-77)) 3, hz_n, hz_n, hz_m (.iconst 1) 1 [] [false, false, false, false, false], hz_r (.ireturn) 1]]
/-- HeavierServes$Trials.comesAsDue(I)Z -/
def hs_k93 : hs_K := [
  [hz_m (.iconst 1) 1 [] [true, true, false], hz_r (.istore_n 2) 1, hz_r (.iload_n 2) 1, hz_r (.aload_n 0) 1, hz_m (.getfield 96) 3 [9, 6] [], hz_n, hz_n, hz_r (.if_icmp .gt 56) 3, hz_n, hz_n, hz_r (.iload_n 2) 1, hz_r (.bipush 60) 2, hz_n, hz_r (.if_icmp .gt 50) 3, hz_n, hz_n],
  [hz_r (.aload_n 0) 1, hz_m (.getfield 29) 3 [9, 2] [], hz_n, hz_n, hz_r (.aload_n 0) 1, hz_m (.getfield 12) 3 [9, 4] [], hz_n, hz_n, hz_r (.iconst 0) 1, hz_r (.iload_n 1) 1, hz_m (.invokevirtual 65) 3 [30, 4, 0, 1] [], hz_n, hz_n, hz_r (.aload_n 0) 1, hz_m (.getfield 18) 3 [9, 5] [], hz_n],
  [hz_n, hz_r (.iload_n 2) 1, hz_r (.iaload) 1, hz_r (.iconst (-1)) 1, hz_r (.if_icmp .eq 21) 3, hz_n, hz_n, hz_r (.aload_n 0) 1, hz_m (.getfield 18) 3 [9, 5] [], hz_n, hz_n, hz_r (.iload_n 2) 1, hz_r (.iaload) 1, hz_r (.aload_n 0) 1, hz_m (.getfield 12) 3 [9, 4] [], hz_n],
  [hz_n, hz_m (.getfield 61) 3 [6, 1] [], hz_n, hz_n, hz_r (.if_icmp .eq 5) 3, hz_n, hz_n, hz_m (.iconst 0) 1 [] [false, false, false], hz_r (.ireturn) 1, hz_r (.iinc 2 1) 3, hz_n, hz_n, hz_r (.goto (-58)) 3, hz_n, hz_n, hz_m (.iconst 1) 1 [] [false, false, false]],
  [hz_r (.ireturn) 1]]
/-- HeavierServes$Trials.explainingWeights(LHeavierServes$Pairs;I)I -/
def hs_k94 : hs_K := [
  [hz_m (.iconst 0) 1 [] [true, true, true, false, false, false, false, false], hz_r (.istore_n 3) 1, hz_r (.iconst 0) 1, hz_r (.istore 4) 2, hz_n, hz_r (.iconst 0) 1, hz_r (.istore 5) 2, hz_n, hz_r (.aload_n 0) 1, hz_r (.aload_n 1) 1, hz_m (.invokevirtual 113) 3 [92, 2, 1, 9] [], hz_n, hz_n, hz_r (.ifCond .eq 9) 3, hz_n, hz_n],
  [hz_m (.sipush 999) 3 [] [true, false, true, true, true, true, false, false], hz_n, hz_n, hz_r (.goto 4) 3, hz_n, hz_n, hz_m (.iconst 0) 1 [] [true, false, true, true, true, true, false, false], hz_m (.istore 6) 2 [] [true, false, true, true, true, true, false, false], hz_n, hz_r (.iconst 1) 1, hz_r (.istore 7) 2, hz_n, hz_m (.iload 7) 2 [] [true, false, true, true, true, true, true, true], hz_n, hz_r (.iload 6) 2, hz_n],
  [hz_r (.if_icmp .gt 56) 3, hz_n, hz_n, hz_m (.aload_n 0) 1 [] [true, false, true, true, true, true, true, true], hz_r (.iload_n 2) 1, hz_r (.iload 7) 2, hz_n, hz_r (.aload_n 0) 1, hz_m (.getfield 22) 3 [9, 0] [], hz_n, hz_n, hz_m (.getfield 41) 3 [6, 7] [], hz_n, hz_n, hz_r (.iload_n 2) 1, hz_r (.iaload) 1],
  [hz_r (.isub) 1, hz_m (.invokevirtual 58) 3 [85, 3, 0, 9] [], hz_n, hz_n, hz_r (.aload_n 0) 1, hz_r (.sipush 255) 3, hz_n, hz_n, hz_m (.invokevirtual 117) 3 [93, 2, 1, 9] [], hz_n, hz_n, hz_r (.ifCond .eq 23) 3, hz_n, hz_n, hz_m (.iload_n 3) 1 [] [true, false, true, true, true, false, true, true], hz_r (.ifCond .ne 8) 3],
  [hz_n, hz_n, hz_m (.iload 7) 2 [] [true, false, true, true, false, false, true, true], hz_n, hz_r (.goto 5) 3, hz_n, hz_n, hz_m (.iload 4) 2 [] [true, false, true, true, true, false, true, true], hz_n, hz_m (.istore 4) 2 [] [true, false, true, true, false, false, true, true], hz_n, hz_r (.iload 7) 2, hz_n, hz_r (.istore 5) 2, hz_n, hz_r (.iinc 3 1) 3],
  [hz_n, hz_n, hz_m (.iinc 7 1) 3 [] [true, false, true, true, true, true, true, true], hz_n, hz_n, hz_r (.goto (-57)) 3, hz_n, hz_n, hz_m (.aload_n 0) 1 [] [true, false, false, true, true, true, false, false], hz_m (.getfield 33) 3 [9, 3] [], hz_n, hz_n, hz_r (.iload_n 3) 1, hz_r (.iload 4) 2, hz_n, hz_r (.iload 5) 2],
  [hz_n, hz_m (.invokevirtual 120) 3 [47, 4, 0, 4] [], hz_n, hz_n, hz_r (.iload_n 3) 1, hz_r (.ireturn) 1]]
/-- HeavierServes$Trials.explainingAbsences(LHeavierServes$Pairs;)I -/
def hs_k95 : hs_K := [
  [hz_m (.aload_n 0) 1 [] [true, true, false, false, false], hz_r (.aload_n 1) 1, hz_m (.invokevirtual 113) 3 [92, 2, 1, 9] [], hz_n, hz_n, hz_r (.istore_n 2) 1, hz_r (.aload_n 0) 1, hz_m (.getfield 12) 3 [9, 4] [], hz_n, hz_n, hz_r (.aload_n 0) 1, hz_m (.getfield 22) 3 [9, 0] [], hz_n, hz_n, hz_m (.invokevirtual 37) 3 [55, 2, 0, 6] [], hz_n],
  [hz_n, hz_r (.aload_n 0) 1, hz_m (.getfield 33) 3 [9, 3] [], hz_n, hz_n, hz_r (.iload_n 2) 1, hz_r (.ifCond .eq 17) 3, hz_n, hz_n, hz_m (.aload_n 0) 1 [] [true, false, true, false, false], hz_r (.sipush 255) 3, hz_n, hz_n, hz_m (.invokevirtual 117) 3 [93, 2, 1, 9] [], hz_n, hz_n],
  [hz_r (.ifCond .eq 7) 3, hz_n, hz_n, hz_m (.lconst 1) 1 [] [true, false, true, false, false], hz_r (.goto 4) 3, hz_n, hz_n, hz_m (.lconst 0) 1 [] [true, false, true, false, false], hz_m (.invokevirtual 74) 3 [45, 2, 0, 4] [true, false, true, false, false], hz_n, hz_n, hz_r (.iconst 0) 1, hz_r (.istore_n 3) 1, hz_r (.iconst 0) 1, hz_r (.istore 4) 2, hz_n],
  [hz_m (.iload 4) 2 [] [true, false, true, true, true], hz_n, hz_r (.aload_n 0) 1, hz_m (.getfield 25) 3 [9, 1] [], hz_n, hz_n, hz_m (.getfield 80) 3 [8, 9] [], hz_n, hz_n, hz_r (.if_icmp .ge 60) 3, hz_n, hz_n, hz_m (.aload_n 0) 1 [] [true, false, true, true, true], hz_m (.getfield 12) 3 [9, 4] [], hz_n, hz_n],
  [hz_r (.aload_n 0) 1, hz_m (.getfield 22) 3 [9, 0] [], hz_n, hz_n, hz_m (.invokevirtual 37) 3 [55, 2, 0, 6] [], hz_n, hz_n, hz_r (.iload_n 2) 1, hz_r (.ifCond .eq 39) 3, hz_n, hz_n, hz_m (.aload_n 0) 1 [] [true, false, true, true, true], hz_m (.getfield 22) 3 [9, 0] [], hz_n, hz_n, hz_r (.iload 4) 2],
  [hz_n, hz_m (.invokevirtual 85) 3 [58, 2, 1, 6] [], hz_n, hz_n, hz_r (.ifCond .eq 27) 3, hz_n, hz_n, hz_m (.aload_n 0) 1 [] [true, false, true, true, true], hz_r (.sipush 255) 3, hz_n, hz_n, hz_r (.iconst 1) 1, hz_r (.iload 4) 2, hz_n, hz_r (.ishl) 1, hz_r (.iconst (-1)) 1],
  [hz_r (.ixor) 1, hz_r (.iand) 1, hz_m (.invokevirtual 117) 3 [93, 2, 1, 9] [], hz_n, hz_n, hz_r (.ifCond .eq 10) 3, hz_n, hz_n, hz_m (.iload_n 3) 1 [] [true, false, true, true, true], hz_r (.iconst 1) 1, hz_r (.iload 4) 2, hz_n, hz_r (.ishl) 1, hz_r (.ior) 1, hz_r (.istore_n 3) 1, hz_m (.iinc 4 1) 3 [] [true, false, true, true, true]],
  [hz_n, hz_n, hz_r (.goto (-66)) 3, hz_n, hz_n, hz_m (.iload_n 3) 1 [] [false, false, false, true, false], hz_r (.ireturn) 1]]
/-- HeavierServes$Will.read(LHeavierServes$Text;)I -/
def hs_k96 : hs_K := [
  [hz_r (.aload_n 1) 1, hz_r (.bipush 40) 2, hz_n, hz_m (.invokevirtual 21) 3 [65, 2, 0, 7] [], hz_n, hz_n, hz_r (.aload_n 0) 1, hz_r (.iconst 0) 1, hz_m (.putfield 27) 3 [10, 5] [], hz_n, hz_n, hz_r (.aload_n 0) 1, hz_r (.iconst 0) 1, hz_m (.putfield 31) 3 [10, 4] [], hz_n, hz_n],
  [hz_r (.aload_n 1) 1, hz_m (.getfield 34) 3 [7, 1] [], hz_n, hz_n, hz_r (.ifCond .le 28) 3, hz_n, hz_n, hz_r (.aload_n 0) 1, hz_r (.aload_n 1) 1, hz_r (.iconst 0) 1, hz_m (.invokevirtual 37) 3 [97, 3, 1, 10] [], hz_n, hz_n, hz_r (.ifCond .eq 14) 3, hz_n, hz_n],
  [hz_r (.aload_n 0) 1, hz_m (.getfield 27) 3 [10, 5] [], hz_n, hz_n, hz_r (.aload_n 1) 1, hz_m (.getfield 34) 3 [7, 1] [], hz_n, hz_n, hz_r (.if_icmp .ge 8) 3, hz_n, hz_n, hz_m (.aload_n 0) 1 [] [true, false], hz_m (.getfield 27) 3 [10, 5] [], hz_n, hz_n, hz_r (.ireturn) 1],
  [hz_m (.aload_n 0) 1 [] [true, false], hz_m (.getfield 15) 3 [10, 1] [], hz_n, hz_n, hz_r (.iconst 0) 1, hz_r (.aload_n 0) 1, hz_m (.getfield 11) 3 [10, 0] [], hz_n, hz_n, hz_r (.iconst 0) 1, hz_r (.bipush 40) 2, hz_n, hz_m (.invokestatic 41) 3 [7] [], hz_n, hz_n, hz_r (.aload_n 0) 1],
  [hz_r (.aload_n 0) 1, hz_m (.getfield 31) 3 [10, 4] [], hz_n, hz_n, hz_m (.putfield 47) 3 [10, 3] [], hz_n, hz_n, hz_r (.iconst (-1)) 1, hz_r (.ireturn) 1]]
/-- HeavierServes$Will.readComparison(LHeavierServes$Text;I)Z -/
def hs_k97 : hs_K := [
  [hz_m (.aload_n 0) 1 [] [true, true, true, false, false], hz_r (.aload_n 1) 1, hz_r (.iload_n 2) 1, hz_m (.invokevirtual 50) 3 [98, 3, 1, 10] [], hz_n, hz_n, hz_r (.istore_n 3) 1, hz_r (.aload_n 1) 1, hz_r (.aload_n 0) 1, hz_m (.getfield 27) 3 [10, 5] [], hz_n, hz_n, hz_m (.invokevirtual 53) 3 [66, 2, 1, 7] [], hz_n, hz_n, hz_r (.istore 4) 2],
  [hz_n, hz_r (.iload_n 3) 1, hz_r (.ifCond .eq 51) 3, hz_n, hz_n, hz_r (.iload 4) 2, hz_n, hz_r (.bipush 60) 2, hz_n, hz_r (.if_icmp .eq 17) 3, hz_n, hz_n, hz_r (.iload 4) 2, hz_n, hz_r (.bipush 62) 2, hz_n],
  [hz_r (.if_icmp .eq 10) 3, hz_n, hz_n, hz_r (.iload 4) 2, hz_n, hz_r (.bipush 61) 2, hz_n, hz_r (.if_icmp .ne 30) 3, hz_n, hz_n, hz_m (.aload_n 0) 1 [] [true, true, true, false, true], hz_r (.dup) 1, hz_m (.getfield 27) 3 [10, 5] [], hz_n, hz_n, hz_r (.iconst 1) 1],
  [hz_r (.iadd) 1, hz_m (.putfield 27) 3 [10, 5] [], hz_n, hz_n, hz_r (.aload_n 0) 1, hz_r (.aload_n 1) 1, hz_r (.iload_n 2) 1, hz_m (.invokevirtual 50) 3 [98, 3, 1, 10] [], hz_n, hz_n, hz_r (.istore_n 3) 1, hz_r (.aload_n 0) 1, hz_r (.sipush 2000) 3, hz_n, hz_n, hz_r (.iload 4) 2],
  [hz_n, hz_r (.iadd) 1, hz_m (.invokevirtual 57) 3 [103, 2, 0, 10] [], hz_n, hz_n, hz_m (.iload_n 3) 1 [] [false, false, false, true, false], hz_r (.ireturn) 1]]
/-- HeavierServes$Will.readSum(LHeavierServes$Text;I)Z -/
def hs_k98 : hs_K := [
  [hz_m (.aload_n 0) 1 [] [true, true, true, false, false, false], hz_r (.aload_n 1) 1, hz_r (.iload_n 2) 1, hz_m (.invokevirtual 60) 3 [99, 3, 1, 10] [], hz_n, hz_n, hz_r (.istore_n 3) 1, hz_r (.iconst 0) 1, hz_r (.istore 4) 2, hz_n, hz_m (.iload 4) 2 [] [true, true, true, true, true, false], hz_n, hz_r (.bipush 40) 2, hz_n, hz_r (.if_icmp .ge 67) 3, hz_n],
  [hz_n, hz_m (.iload_n 3) 1 [] [true, true, true, true, true, false], hz_r (.ifCond .eq 63) 3, hz_n, hz_n, hz_m (.aload_n 1) 1 [] [true, true, true, true, true, false], hz_r (.aload_n 0) 1, hz_m (.getfield 27) 3 [10, 5] [], hz_n, hz_n, hz_m (.invokevirtual 53) 3 [66, 2, 1, 7] [], hz_n, hz_n, hz_r (.istore 5) 2, hz_n, hz_r (.iload 5) 2],
  [hz_n, hz_r (.bipush 43) 2, hz_n, hz_r (.if_icmp .eq 13) 3, hz_n, hz_n, hz_r (.iload 5) 2, hz_n, hz_r (.bipush 45) 2, hz_n, hz_r (.if_icmp .eq 6) 3, hz_n, hz_n, hz_m (.goto 36) 3 [] [false, false, false, true, false, false], hz_n, hz_n],
  [hz_m (.aload_n 0) 1 [] [true, true, true, false, true, true], hz_r (.dup) 1, hz_m (.getfield 27) 3 [10, 5] [], hz_n, hz_n, hz_r (.iconst 1) 1, hz_r (.iadd) 1, hz_m (.putfield 27) 3 [10, 5] [], hz_n, hz_n, hz_r (.aload_n 0) 1, hz_r (.aload_n 1) 1, hz_r (.iload_n 2) 1, hz_m (.invokevirtual 60) 3 [99, 3, 1, 10] [], hz_n, hz_n],
  [hz_r (.istore_n 3) 1, hz_r (.aload_n 0) 1, hz_r (.sipush 2000) 3, hz_n, hz_n, hz_r (.iload 5) 2, hz_n, hz_r (.iadd) 1, hz_m (.invokevirtual 57) 3 [103, 2, 0, 10] [], hz_n, hz_n, hz_r (.iinc 4 1) 3, hz_n, hz_n, hz_r (.goto (-68)) 3, hz_n],
  [hz_n, hz_m (.iload_n 3) 1 [] [false, false, false, true, false, false], hz_r (.ireturn) 1]]
/-- HeavierServes$Will.readProduct(LHeavierServes$Text;I)Z -/
def hs_k99 : hs_K := [
  [hz_m (.aload_n 0) 1 [] [true, true, true, false, false, false], hz_r (.aload_n 1) 1, hz_r (.iload_n 2) 1, hz_m (.invokevirtual 63) 3 [100, 3, 1, 10] [], hz_n, hz_n, hz_r (.istore_n 3) 1, hz_r (.iconst 0) 1, hz_r (.istore 4) 2, hz_n, hz_m (.iload 4) 2 [] [true, true, true, true, true, false], hz_n, hz_r (.bipush 40) 2, hz_n, hz_r (.if_icmp .ge 67) 3, hz_n],
  [hz_n, hz_m (.iload_n 3) 1 [] [true, true, true, true, true, false], hz_r (.ifCond .eq 63) 3, hz_n, hz_n, hz_m (.aload_n 1) 1 [] [true, true, true, true, true, false], hz_r (.aload_n 0) 1, hz_m (.getfield 27) 3 [10, 5] [], hz_n, hz_n, hz_m (.invokevirtual 53) 3 [66, 2, 1, 7] [], hz_n, hz_n, hz_r (.istore 5) 2, hz_n, hz_r (.iload 5) 2],
  [hz_n, hz_r (.bipush 42) 2, hz_n, hz_r (.if_icmp .eq 13) 3, hz_n, hz_n, hz_r (.iload 5) 2, hz_n, hz_r (.bipush 47) 2, hz_n, hz_r (.if_icmp .eq 6) 3, hz_n, hz_n, hz_m (.goto 36) 3 [] [false, false, false, true, false, false], hz_n, hz_n],
  [hz_m (.aload_n 0) 1 [] [true, true, true, false, true, true], hz_r (.dup) 1, hz_m (.getfield 27) 3 [10, 5] [], hz_n, hz_n, hz_r (.iconst 1) 1, hz_r (.iadd) 1, hz_m (.putfield 27) 3 [10, 5] [], hz_n, hz_n, hz_r (.aload_n 0) 1, hz_r (.aload_n 1) 1, hz_r (.iload_n 2) 1, hz_m (.invokevirtual 63) 3 [100, 3, 1, 10] [], hz_n, hz_n],
  [hz_r (.istore_n 3) 1, hz_r (.aload_n 0) 1, hz_r (.sipush 2000) 3, hz_n, hz_n, hz_r (.iload 5) 2, hz_n, hz_r (.iadd) 1, hz_m (.invokevirtual 57) 3 [103, 2, 0, 10] [], hz_n, hz_n, hz_r (.iinc 4 1) 3, hz_n, hz_n, hz_r (.goto (-68)) 3, hz_n],
  [hz_n, hz_m (.iload_n 3) 1 [] [false, false, false, true, false, false], hz_r (.ireturn) 1]]
/-- HeavierServes$Will.readThing(LHeavierServes$Text;I)Z -/
def hs_k100 : hs_K := [
  [hz_m (.iconst 0) 1 [] [true, true, true, false, false, false], hz_r (.istore_n 3) 1, hz_r (.iconst 0) 1, hz_r (.istore 4) 2, hz_n, hz_m (.iload 4) 2 [] [true, true, true, true, true, false], hz_n, hz_r (.bipush 40) 2, hz_n, hz_r (.if_icmp .ge 42) 3, hz_n, hz_n, hz_m (.aload_n 1) 1 [] [true, true, true, true, true, false], hz_r (.aload_n 0) 1, hz_m (.getfield 27) 3 [10, 5] [], hz_n],
  [hz_n, hz_m (.invokevirtual 53) 3 [66, 2, 1, 7] [], hz_n, hz_n, hz_r (.bipush 45) 2, hz_n, hz_r (.if_icmp .ne 29) 3, hz_n, hz_n, hz_m (.iload_n 3) 1 [] [true, true, true, true, true, false], hz_r (.ifCond .ne 7) 3, hz_n, hz_n, hz_m (.iconst 1) 1 [] [true, true, true, false, true, false], hz_r (.goto 4) 3, hz_n],
  [hz_n, hz_m (.iconst 0) 1 [] [true, true, true, false, true, false], hz_m (.istore_n 3) 1 [] [true, true, true, false, true, false], hz_r (.aload_n 0) 1, hz_r (.dup) 1, hz_m (.getfield 27) 3 [10, 5] [], hz_n, hz_n, hz_r (.iconst 1) 1, hz_r (.iadd) 1, hz_m (.putfield 27) 3 [10, 5] [], hz_n, hz_n, hz_r (.iinc 4 1) 3, hz_n, hz_n],
  [hz_r (.goto (-43)) 3, hz_n, hz_n, hz_m (.aload_n 1) 1 [] [true, true, true, true, false, false], hz_r (.aload_n 0) 1, hz_m (.getfield 27) 3 [10, 5] [], hz_n, hz_n, hz_m (.invokevirtual 53) 3 [66, 2, 1, 7] [], hz_n, hz_n, hz_r (.istore 4) 2, hz_n, hz_r (.iconst 1) 1, hz_r (.istore 5) 2, hz_n],
  [hz_r (.iload 4) 2, hz_n, hz_r (.bipush 40) 2, hz_n, hz_r (.if_icmp .ne 27) 3, hz_n, hz_n, hz_m (.iload_n 2) 1 [] [true, true, true, true, false, false], hz_r (.iconst 4) 1, hz_r (.if_icmp .ge 16) 3, hz_n, hz_n, hz_m (.aload_n 0) 1 [] [true, true, true, true, false, false], hz_r (.aload_n 1) 1, hz_r (.iload_n 2) 1, hz_m (.invokevirtual 66) 3 [101, 3, 1, 10] []],
  [hz_n, hz_n, hz_r (.ifCond .eq 7) 3, hz_n, hz_n, hz_m (.iconst 1) 1 [] [true, false, false, true, false, false], hz_r (.goto 4) 3, hz_n, hz_n, hz_m (.iconst 0) 1 [] [true, false, false, true, false, false], hz_m (.istore 5) 2 [] [true, false, false, true, false, false], hz_n, hz_r (.goto 59) 3, hz_n, hz_n, hz_m (.iload 4) 2 [] [true, true, false, true, true, true]],
  [hz_n, hz_r (.bipush 48) 2, hz_n, hz_r (.if_icmp .lt 18) 3, hz_n, hz_n, hz_m (.iload 4) 2 [] [true, true, false, true, true, true], hz_n, hz_r (.bipush 57) 2, hz_n, hz_r (.if_icmp .gt 11) 3, hz_n, hz_n, hz_m (.aload_n 0) 1 [] [true, true, false, true, false, true], hz_r (.aload_n 1) 1, hz_m (.invokevirtual 69) 3 [102, 2, 0, 10] []],
  [hz_n, hz_n, hz_r (.goto 37) 3, hz_n, hz_n, hz_m (.iload 4) 2 [] [true, false, false, true, true, true], hz_n, hz_m (.invokestatic 73) 3 [104, 1, 1] [], hz_n, hz_n, hz_r (.ifCond .eq 26) 3, hz_n, hz_n, hz_m (.aload_n 0) 1 [] [true, false, false, true, true, true], hz_r (.sipush 1000) 3, hz_n],
  [hz_n, hz_r (.iload 4) 2, hz_n, hz_r (.iadd) 1, hz_m (.invokevirtual 57) 3 [103, 2, 0, 10] [], hz_n, hz_n, hz_r (.aload_n 0) 1, hz_r (.dup) 1, hz_m (.getfield 27) 3 [10, 5] [], hz_n, hz_n, hz_r (.iconst 1) 1, hz_r (.iadd) 1, hz_m (.putfield 27) 3 [10, 5] [], hz_n],
  [hz_n, hz_r (.goto 6) 3, hz_n, hz_n, hz_m (.iconst 0) 1 [] [true, false, false, true, false, false], hz_r (.istore 5) 2, hz_n, hz_m (.iload_n 3) 1 [] [true, false, false, true, false, true], hz_r (.ifCond .eq 10) 3, hz_n, hz_n, hz_m (.aload_n 0) 1 [] [true, false, false, false, false, true], hz_r (.sipush 3000) 3, hz_n, hz_n, hz_m (.invokevirtual 57) 3 [103, 2, 0, 10] []],
  [hz_n, hz_n, hz_m (.iload 5) 2 [] [false, false, false, false, false, true], hz_n, hz_r (.ireturn) 1]]
/-- HeavierServes$Will.readBracket(LHeavierServes$Text;I)Z -/
def hs_k101 : hs_K := [
  [hz_r (.aload_n 0) 1, hz_r (.dup) 1, hz_m (.getfield 27) 3 [10, 5] [], hz_n, hz_n, hz_r (.iconst 1) 1, hz_r (.iadd) 1, hz_m (.putfield 27) 3 [10, 5] [], hz_n, hz_n, hz_r (.aload_n 0) 1, hz_r (.aload_n 1) 1, hz_r (.iload_n 2) 1, hz_r (.iconst 1) 1, hz_r (.iadd) 1, hz_m (.invokevirtual 37) 3 [97, 3, 1, 10] []],
  [hz_n, hz_n, hz_r (.ifCond .eq 16) 3, hz_n, hz_n, hz_m (.aload_n 1) 1 [] [true, true, false], hz_r (.aload_n 0) 1, hz_m (.getfield 27) 3 [10, 5] [], hz_n, hz_n, hz_m (.invokevirtual 53) 3 [66, 2, 1, 7] [], hz_n, hz_n, hz_r (.bipush 41) 2, hz_n, hz_r (.if_icmp .eq 5) 3],
  [hz_n, hz_n, hz_m (.iconst 0) 1 [] [false, false, false], hz_r (.ireturn) 1, hz_m (.aload_n 0) 1 [] [true, false, false], hz_r (.dup) 1, hz_m (.getfield 27) 3 [10, 5] [], hz_n, hz_n, hz_r (.iconst 1) 1, hz_r (.iadd) 1, hz_m (.putfield 27) 3 [10, 5] [], hz_n, hz_n, hz_r (.iconst 1) 1, hz_r (.ireturn) 1]]
/-- HeavierServes$Will.readNumber(LHeavierServes$Text;)V -/
def hs_k102 : hs_K := [
  [hz_m (.iconst 0) 1 [] [true, true, false, false], hz_r (.istore_n 2) 1, hz_r (.iconst 0) 1, hz_r (.istore_n 3) 1, hz_r (.iload_n 3) 1, hz_r (.iconst 3) 1, hz_r (.if_icmp .ge 45) 3, hz_n, hz_n, hz_r (.aload_n 1) 1, hz_r (.aload_n 0) 1, hz_m (.getfield 27) 3 [10, 5] [], hz_n, hz_n, hz_m (.invokevirtual 77) 3 [67, 2, 1, 7] [], hz_n],
  [hz_n, hz_r (.iconst (-1)) 1, hz_r (.if_icmp .eq 33) 3, hz_n, hz_n, hz_r (.iload_n 2) 1, hz_r (.bipush 10) 2, hz_n, hz_r (.imul) 1, hz_r (.aload_n 1) 1, hz_r (.aload_n 0) 1, hz_m (.getfield 27) 3 [10, 5] [], hz_n, hz_n, hz_m (.invokevirtual 77) 3 [67, 2, 1, 7] [], hz_n],
  [hz_n, hz_r (.iadd) 1, hz_r (.istore_n 2) 1, hz_r (.aload_n 0) 1, hz_r (.dup) 1, hz_m (.getfield 27) 3 [10, 5] [], hz_n, hz_n, hz_r (.iconst 1) 1, hz_r (.iadd) 1, hz_m (.putfield 27) 3 [10, 5] [], hz_n, hz_n, hz_r (.iinc 3 1) 3, hz_n, hz_n],
  [hz_r (.goto (-44)) 3, hz_n, hz_n, hz_m (.aload_n 0) 1 [] [true, false, true, false], hz_r (.iload_n 2) 1, hz_m (.invokevirtual 57) 3 [103, 2, 0, 10] [], hz_n, hz_n, hz_r (.return_) 1]]
/-- HeavierServes$Will.emit(I)V -/
def hs_k103 : hs_K := [
  [hz_r (.aload_n 0) 1, hz_m (.getfield 31) 3 [10, 4] [], hz_n, hz_n, hz_r (.ifCond .lt 32) 3, hz_n, hz_n, hz_r (.aload_n 0) 1, hz_m (.getfield 31) 3 [10, 4] [], hz_n, hz_n, hz_r (.bipush 40) 2, hz_n, hz_r (.if_icmp .ge 23) 3, hz_n, hz_n],
  [hz_r (.aload_n 0) 1, hz_m (.getfield 15) 3 [10, 1] [], hz_n, hz_n, hz_r (.aload_n 0) 1, hz_m (.getfield 31) 3 [10, 4] [], hz_n, hz_n, hz_r (.iload_n 1) 1, hz_r (.iastore) 1, hz_r (.aload_n 0) 1, hz_r (.dup) 1, hz_m (.getfield 31) 3 [10, 4] [], hz_n, hz_n, hz_r (.iconst 1) 1],
  [hz_r (.iadd) 1, hz_m (.putfield 31) 3 [10, 4] [], hz_n, hz_n, hz_m (.return_) 1 [] [false, false]]]
/-- HeavierServes$Will.isFact(I)Z -/
def hs_k104 : hs_K := [
  [hz_r (.iload_n 0) 1, hz_r (.tableswitch 77 105 119 #[75, 77, 77, 77, 77, 75, 75, 75, 75, 77, 75, 75, 77, 75, 75]) 75, hz_n, hz_n, hz_n, hz_n, hz_n, hz_n, hz_n, hz_n, hz_n, hz_n, hz_n, hz_n, hz_n, hz_n],
  [hz_n, hz_n, hz_n, hz_n, hz_n, hz_n, hz_n, hz_n, hz_n, hz_n, hz_n, hz_n, hz_n, hz_n, hz_n, hz_n],
  [hz_n, hz_n, hz_n, hz_n, hz_n, hz_n, hz_n, hz_n, hz_n, hz_n, hz_n, hz_n, hz_n, hz_n, hz_n, hz_n],
  [hz_n, hz_n, hz_n, hz_n, hz_n, hz_n, hz_n, hz_n, hz_n, hz_n, hz_n, hz_n, hz_n, hz_n, hz_n, hz_n],
  [hz_n, hz_n, hz_n, hz_n, hz_n, hz_n, hz_n, hz_n, hz_n, hz_n, hz_n, hz_n, hz_m (.iconst 1) 1 [] [false], hz_r (.ireturn) 1, hz_m (.iconst 0) 1 [] [false], hz_r (.ireturn) 1]]
/-- HeavierServes$Will.value(LHeavierServes$State;LHeavierServes$Town;I)I -/
def hs_k105 : hs_K := [
  [hz_m (.aload_n 0) 1 [] [true, true, true, true, false, false, false, false, false], hz_m (.getfield 47) 3 [10, 3] [], hz_n, hz_n, hz_r (.ifCond .ne 5) 3, hz_n, hz_n, hz_m (.iconst 1) 1 [] [false, false, false, false, false, false, false, false, false], hz_r (.ireturn) 1, hz_m (.iconst 0) 1 [] [true, true, true, true, false, false, false, false, false], hz_r (.istore 4) 2, hz_n, hz_r (.iconst 0) 1, hz_r (.istore 5) 2, hz_n, hz_m (.iload 5) 2 [] [true, true, true, true, true, true, false, false, false]],
  [hz_n, hz_r (.aload_n 0) 1, hz_m (.getfield 47) 3 [10, 3] [], hz_n, hz_n, hz_r (.if_icmp .ge 159) 3, hz_n, hz_n, hz_m (.iload 5) 2 [] [true, true, true, true, true, true, false, false, false], hz_n, hz_r (.bipush 40) 2, hz_n, hz_r (.if_icmp .ge 152) 3, hz_n, hz_n, hz_m (.aload_n 0) 1 [] [true, true, true, true, true, true, false, false, false]],
  [hz_m (.getfield 11) 3 [10, 0] [], hz_n, hz_n, hz_r (.iload 5) 2, hz_n, hz_r (.iaload) 1, hz_r (.istore 6) 2, hz_n, hz_r (.iload 6) 2, hz_n, hz_r (.sipush 2000) 3, hz_n, hz_n, hz_r (.if_icmp .lt 85) 3, hz_n, hz_n],
  [hz_m (.iload 6) 2 [] [true, true, true, true, true, true, true, false, false], hz_n, hz_r (.sipush 3000) 3, hz_n, hz_n, hz_r (.if_icmp .ne 7) 3, hz_n, hz_n, hz_m (.iconst 0) 1 [] [true, true, true, true, true, true, true, false, false], hz_r (.goto 4) 3, hz_n, hz_n, hz_m (.iconst 1) 1 [] [true, true, true, true, true, true, true, false, false], hz_m (.istore 7) 2 [] [true, true, true, true, true, true, true, false, false], hz_n, hz_r (.iload 4) 2],
  [hz_n, hz_r (.iload 7) 2, hz_n, hz_r (.isub) 1, hz_r (.istore 4) 2, hz_n, hz_r (.iload 4) 2, hz_n, hz_r (.iconst 1) 1, hz_r (.if_icmp .ge 5) 3, hz_n, hz_n, hz_m (.iconst 0) 1 [] [false, false, false, false, false, false, false, false, false], hz_r (.ireturn) 1, hz_m (.aload_n 0) 1 [] [true, true, true, true, true, true, true, true, false], hz_m (.getfield 18) 3 [10, 2] []],
  [hz_n, hz_n, hz_r (.iload 4) 2, hz_n, hz_r (.iconst 1) 1, hz_r (.isub) 1, hz_r (.iaload) 1, hz_r (.istore 8) 2, hz_n, hz_r (.aload_n 0) 1, hz_m (.getfield 18) 3 [10, 2] [], hz_n, hz_n, hz_r (.iload 4) 2, hz_n, hz_r (.iconst 1) 1],
  [hz_r (.isub) 1, hz_r (.iload 7) 2, hz_n, hz_r (.ifCond .ne 9) 3, hz_n, hz_n, hz_m (.iload 8) 2 [] [true, true, true, true, true, true, false, false, true], hz_n, hz_r (.ineg) 1, hz_r (.goto 21) 3, hz_n, hz_n, hz_m (.iload 6) 2 [] [true, true, true, true, true, true, true, false, true], hz_n, hz_r (.sipush 2000) 3, hz_n],
  [hz_n, hz_r (.isub) 1, hz_r (.iload 8) 2, hz_n, hz_r (.aload_n 0) 1, hz_m (.getfield 18) 3 [10, 2] [], hz_n, hz_n, hz_r (.iload 4) 2, hz_n, hz_r (.iaload) 1, hz_m (.invokestatic 80) 3 [106, 3, 1] [], hz_n, hz_n, hz_m (.iastore) 1 [] [true, true, true, true, true, true, false, false, false], hz_r (.goto 47) 3],
  [hz_n, hz_n, hz_m (.iload 4) 2 [] [true, true, true, true, true, true, true, false, false], hz_n, hz_r (.bipush 40) 2, hz_n, hz_r (.if_icmp .lt 5) 3, hz_n, hz_n, hz_m (.iconst 0) 1 [] [false, false, false, false, false, false, false, false, false], hz_r (.ireturn) 1, hz_m (.aload_n 0) 1 [] [true, true, true, true, true, true, true, false, false], hz_m (.getfield 18) 3 [10, 2] [], hz_n, hz_n, hz_r (.iload 4) 2],
  [hz_n, hz_r (.iload 6) 2, hz_n, hz_r (.sipush 1000) 3, hz_n, hz_n, hz_r (.if_icmp .ge 8) 3, hz_n, hz_n, hz_m (.iload 6) 2 [] [true, true, true, true, true, true, true, false, false], hz_n, hz_r (.goto 15) 3, hz_n, hz_n, hz_m (.iload 6) 2 [] [true, true, true, true, true, true, true, false, false], hz_n],
  [hz_r (.sipush 1000) 3, hz_n, hz_n, hz_r (.isub) 1, hz_r (.aload_n 1) 1, hz_r (.aload_n 2) 1, hz_r (.iload_n 3) 1, hz_m (.invokestatic 84) 3 [107, 4, 1] [], hz_n, hz_n, hz_m (.iastore) 1 [] [true, true, true, true, true, true, false, false, false], hz_r (.iinc 4 1) 3, hz_n, hz_n, hz_m (.iinc 5 1) 3 [] [true, true, true, true, true, true, false, false, false], hz_n],
  [hz_n, hz_r (.goto (-162)) 3, hz_n, hz_n, hz_m (.aload_n 0) 1 [] [true, false, false, false, false, false, false, false, false], hz_m (.getfield 18) 3 [10, 2] [], hz_n, hz_n, hz_r (.iconst 0) 1, hz_r (.iaload) 1, hz_r (.ireturn) 1]]
/-- HeavierServes$Will.combine(III)I -/
def hs_k106 : hs_K := [
  [hz_r (.iload_n 0) 1, hz_r (.lookupswitch 105 #[(42, 67), (43, 59), (45, 63), (47, 71), (60, 83), (62, 94)]) 59, hz_n, hz_n, hz_n, hz_n, hz_n, hz_n, hz_n, hz_n, hz_n, hz_n, hz_n, hz_n, hz_n, hz_n],
  [hz_n, hz_n, hz_n, hz_n, hz_n, hz_n, hz_n, hz_n, hz_n, hz_n, hz_n, hz_n, hz_n, hz_n, hz_n, hz_n],
  [hz_n, hz_n, hz_n, hz_n, hz_n, hz_n, hz_n, hz_n, hz_n, hz_n, hz_n, hz_n, hz_n, hz_n, hz_n, hz_n],
  [hz_n, hz_n, hz_n, hz_n, hz_n, hz_n, hz_n, hz_n, hz_n, hz_n, hz_n, hz_n, hz_m (.iload_n 1) 1 [] [false, true, true], hz_r (.iload_n 2) 1, hz_r (.iadd) 1, hz_r (.ireturn) 1],
  [hz_m (.iload_n 1) 1 [] [false, true, true], hz_r (.iload_n 2) 1, hz_r (.isub) 1, hz_r (.ireturn) 1, hz_m (.iload_n 1) 1 [] [false, true, true], hz_r (.iload_n 2) 1, hz_r (.imul) 1, hz_r (.ireturn) 1, hz_m (.iload_n 2) 1 [] [false, true, true], hz_r (.ifCond .ne 7) 3, hz_n, hz_n, hz_m (.iconst 0) 1 [] [false, false, false], hz_r (.goto 6) 3, hz_n, hz_n],
  [hz_m (.iload_n 1) 1 [] [false, true, true], hz_r (.iload_n 2) 1, hz_r (.idiv) 1, hz_m (.ireturn) 1 [] [false, false, false], hz_m (.iload_n 1) 1 [] [false, true, true], hz_r (.iload_n 2) 1, hz_r (.if_icmp .ge 7) 3, hz_n, hz_n, hz_m (.iconst 1) 1 [] [false, false, false], hz_r (.goto 4) 3, hz_n, hz_n, hz_m (.iconst 0) 1 [] [false, false, false], hz_m (.ireturn) 1 [] [false, false, false], hz_m (.iload_n 1) 1 [] [false, true, true]],
  [hz_r (.iload_n 2) 1, hz_r (.if_icmp .le 7) 3, hz_n, hz_n, hz_m (.iconst 1) 1 [] [false, false, false], hz_r (.goto 4) 3, hz_n, hz_n, hz_m (.iconst 0) 1 [] [false, false, false], hz_m (.ireturn) 1 [] [false, false, false], hz_m (.iload_n 1) 1 [] [false, true, true], hz_r (.iload_n 2) 1, hz_r (.if_icmp .ne 7) 3, hz_n, hz_n, hz_m (.iconst 1) 1 [] [false, false, false]],
  [hz_r (.goto 4) 3, hz_n, hz_n, hz_m (.iconst 0) 1 [] [false, false, false], hz_m (.ireturn) 1 [] [false, false, false]]]
/-- HeavierServes$Will.fact(ILHeavierServes$State;LHeavierServes$Town;I)I -/
def hs_k107 : hs_K := [
  [hz_m (.aload_n 1) 1 [] [true, true, true, true, false], hz_m (.getfield 88) 3 [6, 1] [], hz_n, hz_n, hz_r (.istore 4) 2, hz_n, hz_r (.iload_n 0) 1, hz_r (.tableswitch 138 105 119 #[73, 138, 138, 138, 138, 133, 138, 82, 106, 138, 123, 128, 138, 89, 75]) 73, hz_n, hz_n, hz_n, hz_n, hz_n, hz_n, hz_n, hz_n],
  [hz_n, hz_n, hz_n, hz_n, hz_n, hz_n, hz_n, hz_n, hz_n, hz_n, hz_n, hz_n, hz_n, hz_n, hz_n, hz_n],
  [hz_n, hz_n, hz_n, hz_n, hz_n, hz_n, hz_n, hz_n, hz_n, hz_n, hz_n, hz_n, hz_n, hz_n, hz_n, hz_n],
  [hz_n, hz_n, hz_n, hz_n, hz_n, hz_n, hz_n, hz_n, hz_n, hz_n, hz_n, hz_n, hz_n, hz_n, hz_n, hz_n],
  [hz_n, hz_n, hz_n, hz_n, hz_n, hz_n, hz_n, hz_n, hz_n, hz_n, hz_n, hz_n, hz_n, hz_n, hz_n, hz_n],
  [hz_m (.iload_n 3) 1 [] [false, false, false, true, false], hz_r (.ireturn) 1, hz_m (.aload_n 1) 1 [] [false, true, false, true, false], hz_m (.getfield 93) 3 [6, 7] [], hz_n, hz_n, hz_r (.iload_n 3) 1, hz_r (.iaload) 1, hz_r (.ireturn) 1, hz_m (.aload_n 2) 1 [] [false, false, true, true, false], hz_m (.getfield 96) 3 [8, 0] [], hz_n, hz_n, hz_r (.iload_n 3) 1, hz_r (.iaload) 1, hz_r (.ireturn) 1],
  [hz_m (.iload 4) 2 [] [false, true, false, false, true], hz_n, hz_r (.ifCond .ge 7) 3, hz_n, hz_n, hz_m (.iconst 0) 1 [] [false, false, false, false, false], hz_r (.goto 10) 3, hz_n, hz_n, hz_m (.aload_n 1) 1 [] [false, true, false, false, true], hz_m (.getfield 93) 3 [6, 7] [], hz_n, hz_n, hz_r (.iload 4) 2, hz_n, hz_r (.iaload) 1],
  [hz_m (.ireturn) 1 [] [false, false, false, false, false], hz_m (.iload 4) 2 [] [false, false, true, false, true], hz_n, hz_r (.ifCond .ge 7) 3, hz_n, hz_n, hz_m (.iconst (-1)) 1 [] [false, false, false, false, false], hz_r (.goto 10) 3, hz_n, hz_n, hz_m (.aload_n 2) 1 [] [false, false, true, false, true], hz_m (.getfield 96) 3 [8, 0] [], hz_n, hz_n, hz_r (.iload 4) 2, hz_n],
  [hz_r (.iaload) 1, hz_m (.ireturn) 1 [] [false, false, false, false, false], hz_m (.aload_n 1) 1 [] [false, true, false, false, false], hz_m (.getfield 101) 3 [6, 2] [], hz_n, hz_n, hz_r (.ireturn) 1, hz_m (.aload_n 1) 1 [] [false, true, false, false, false], hz_m (.getfield 104) 3 [6, 5] [], hz_n, hz_n, hz_r (.ireturn) 1, hz_m (.aload_n 1) 1 [] [false, true, false, false, false], hz_m (.getfield 107) 3 [6, 0] [], hz_n, hz_n],
  [hz_r (.ireturn) 1, hz_m (.aload_n 1) 1 [] [false, true, false, true, false], hz_m (.getfield 110) 3 [6, 8] [], hz_n, hz_n, hz_r (.iload_n 3) 1, hz_r (.iaload) 1, hz_r (.ireturn) 1]]
/-- HeavierServes.sign(I)I -/
def hs_k108 : hs_K := [
  [hz_r (.aload_n 0) 1, hz_m (.getfield 10) 3 [11, 0] [], hz_n, hz_n, hz_r (.iload_n 1) 1, hz_m (.invokevirtual 95) 3 [64, 2, 1, 7] [], hz_n, hz_n, hz_r (.ifCond .eq 13) 3, hz_n, hz_n, hz_m (.aload_n 0) 1 [] [true, false], hz_m (.getfield 10) 3 [11, 0] [], hz_n, hz_n, hz_m (.getfield 99) 3 [7, 1] []],
  [hz_n, hz_n, hz_r (.goto 4) 3, hz_n, hz_n, hz_m (.iconst (-1)) 1 [] [false, false], hz_m (.ireturn) 1 [] [false, false]]]
/-- HeavierServes.end(I)Z -/
def hs_k109 : hs_K := [
  [hz_r (.iload_n 1) 1, hz_r (.ifCond .lt 14) 3, hz_n, hz_n, hz_r (.iload_n 1) 1, hz_r (.aload_n 0) 1, hz_m (.getfield 10) 3 [11, 0] [], hz_n, hz_n, hz_m (.getfield 99) 3 [7, 1] [], hz_n, hz_n, hz_r (.if_icmp .le 5) 3, hz_n, hz_n, hz_m (.iconst 0) 1 [] [false, false]],
  [hz_r (.ireturn) 1, hz_r (.aload_n 0) 1, hz_m (.getfield 10) 3 [11, 0] [], hz_n, hz_n, hz_r (.iload_n 1) 1, hz_m (.putfield 99) 3 [7, 1] [], hz_n, hz_n, hz_r (.iconst 1) 1, hz_r (.ireturn) 1]]
/-- HeavierServes.town()I -/
def hs_k110 : hs_K := [
  [hz_m (.aload_n 0) 1 [] [true, false, false, false], hz_m (.getfield 10) 3 [11, 0] [], hz_n, hz_n, hz_m (.getfield 99) 3 [7, 1] [], hz_n, hz_n, hz_r (.ifCond .ne 5) 3, hz_n, hz_n, hz_m (.iconst 0) 1 [] [false, false, false, false], hz_r (.ireturn) 1, hz_m (.aload_n 0) 1 [] [true, false, false, false], hz_m (.getfield 26) 3 [11, 2] [], hz_n, hz_n],
  [hz_r (.aload_n 0) 1, hz_m (.getfield 10) 3 [11, 0] [], hz_n, hz_n, hz_m (.invokevirtual 103) 3 [77, 2, 1, 8] [], hz_n, hz_n, hz_r (.istore_n 1) 1, hz_r (.aload_n 0) 1, hz_m (.getfield 10) 3 [11, 0] [], hz_n, hz_n, hz_r (.iconst 0) 1, hz_m (.putfield 99) 3 [7, 1] [], hz_n, hz_n],
  [hz_r (.iload_n 1) 1, hz_r (.iconst (-1)) 1, hz_r (.if_icmp .eq 7) 3, hz_n, hz_n, hz_m (.iconst (-1)) 1 [] [false, true, false, false], hz_r (.iload_n 1) 1, hz_r (.isub) 1, hz_r (.ireturn) 1, hz_m (.aload_n 0) 1 [] [true, false, false, false], hz_m (.getfield 26) 3 [11, 2] [], hz_n, hz_n, hz_m (.getfield 107) 3 [8, 8] [], hz_n, hz_n],
  [hz_r (.istore_n 2) 1, hz_r (.iconst 0) 1, hz_r (.istore_n 3) 1, hz_m (.iload_n 3) 1 [] [true, false, true, true], hz_r (.iload_n 2) 1, hz_r (.if_icmp .ge 44) 3, hz_n, hz_n, hz_m (.aload_n 0) 1 [] [true, false, true, true], hz_m (.getfield 47) 3 [11, 5] [], hz_n, hz_n, hz_r (.aload_n 0) 1, hz_m (.getfield 26) 3 [11, 2] [], hz_n, hz_n],
  [hz_m (.getfield 110) 3 [8, 9] [], hz_n, hz_n, hz_r (.aload_n 0) 1, hz_m (.getfield 26) 3 [11, 2] [], hz_n, hz_n, hz_r (.aload_n 0) 1, hz_m (.getfield 26) 3 [11, 2] [], hz_n, hz_n, hz_m (.getfield 110) 3 [8, 9] [], hz_n, hz_n, hz_m (.invokevirtual 113) 3 [72, 2, 1, 8] [], hz_n],
  [hz_n, hz_m (.invokevirtual 117) 3 [57, 3, 0, 6] [], hz_n, hz_n, hz_r (.aload_n 0) 1, hz_m (.getfield 26) 3 [11, 2] [], hz_n, hz_n, hz_m (.invokevirtual 121) 3 [69, 1, 0, 8] [], hz_n, hz_n, hz_r (.iinc 3 1) 3, hz_n, hz_n, hz_r (.goto (-43)) 3, hz_n],
  [hz_n, hz_m (.aload_n 0) 1 [] [true, false, true, false], hz_m (.getfield 54) 3 [11, 6] [], hz_n, hz_n, hz_m (.invokevirtual 124) 3 [42, 1, 0, 3] [], hz_n, hz_n, hz_r (.iload_n 2) 1, hz_r (.ireturn) 1]]
/-- HeavierServes.will()I -/
def hs_k111 : hs_K := [
  [hz_m (.aload_n 0) 1 [] [true, false], hz_m (.getfield 33) 3 [11, 3] [], hz_n, hz_n, hz_r (.aload_n 0) 1, hz_m (.getfield 10) 3 [11, 0] [], hz_n, hz_n, hz_m (.invokevirtual 127) 3 [96, 2, 1, 10] [], hz_n, hz_n, hz_r (.istore_n 1) 1, hz_r (.aload_n 0) 1, hz_m (.getfield 10) 3 [11, 0] [], hz_n, hz_n],
  [hz_r (.iconst 0) 1, hz_m (.putfield 99) 3 [7, 1] [], hz_n, hz_n, hz_r (.iload_n 1) 1, hz_r (.iconst (-1)) 1, hz_r (.if_icmp .ne 7) 3, hz_n, hz_n, hz_m (.iconst 0) 1 [] [false, false], hz_r (.goto 6) 3, hz_n, hz_n, hz_m (.iconst (-1)) 1 [] [false, true], hz_r (.iload_n 1) 1, hz_r (.isub) 1],
  [hz_m (.ireturn) 1 [] [false, false]]]
/-- HeavierServes.habit(I)I -/
def hs_k112 : hs_K := [
  [hz_m (.aload_n 0) 1 [] [true, true, false], hz_m (.getfield 26) 3 [11, 2] [], hz_n, hz_n, hz_r (.iload_n 1) 1, hz_m (.invokevirtual 130) 3 [68, 2, 1, 8] [], hz_n, hz_n, hz_r (.ifCond .ne 14) 3, hz_n, hz_n, hz_m (.aload_n 0) 1 [] [true, false, false], hz_m (.getfield 10) 3 [11, 0] [], hz_n, hz_n, hz_r (.iconst 0) 1],
  [hz_m (.putfield 99) 3 [7, 1] [], hz_n, hz_n, hz_r (.bipush (-100)) 2, hz_n, hz_r (.ireturn) 1, hz_m (.aload_n 0) 1 [] [true, true, false], hz_m (.getfield 26) 3 [11, 2] [], hz_n, hz_n, hz_r (.aload_n 0) 1, hz_m (.getfield 10) 3 [11, 0] [], hz_n, hz_n, hz_r (.iload_n 1) 1, hz_m (.invokevirtual 133) 3 [78, 3, 1, 8] []],
  [hz_n, hz_n, hz_r (.istore_n 2) 1, hz_r (.aload_n 0) 1, hz_m (.getfield 10) 3 [11, 0] [], hz_n, hz_n, hz_r (.iconst 0) 1, hz_m (.putfield 99) 3 [7, 1] [], hz_n, hz_n, hz_r (.iload_n 2) 1, hz_r (.iconst (-1)) 1, hz_r (.if_icmp .ne 15) 3, hz_n, hz_n],
  [hz_m (.aload_n 0) 1 [] [true, true, false], hz_m (.getfield 26) 3 [11, 2] [], hz_n, hz_n, hz_m (.getfield 137) 3 [8, 2] [], hz_n, hz_n, hz_r (.iload_n 1) 1, hz_r (.iaload) 1, hz_r (.goto 6) 3, hz_n, hz_n, hz_m (.iconst (-1)) 1 [] [false, false, true], hz_r (.iload_n 2) 1, hz_r (.isub) 1, hz_m (.ireturn) 1 [] [false, false, false]]]
/-- HeavierServes.of(II)I -/
def hs_k113 : hs_K := [
  [hz_r (.aload_n 0) 1, hz_m (.getfield 26) 3 [11, 2] [], hz_n, hz_n, hz_r (.iload_n 1) 1, hz_m (.invokevirtual 130) 3 [68, 2, 1, 8] [], hz_n, hz_n, hz_r (.ifCond .ne 11) 3, hz_n, hz_n, hz_m (.new 141) 3 [] [false, false, false], hz_n, hz_n, hz_r (.dup) 1, hz_r (.invokespecial 143) 3],
  [hz_n, hz_n, hz_r (.athrow) 1, hz_r (.iload_n 2) 1, hz_r (.tableswitch 149 0 7 #[48, 58, 68, 78, 95, 105, 122, 139]) 48, hz_n, hz_n, hz_n, hz_n, hz_n, hz_n, hz_n, hz_n, hz_n, hz_n, hz_n],
  [hz_n, hz_n, hz_n, hz_n, hz_n, hz_n, hz_n, hz_n, hz_n, hz_n, hz_n, hz_n, hz_n, hz_n, hz_n, hz_n],
  [hz_n, hz_n, hz_n, hz_n, hz_n, hz_n, hz_n, hz_n, hz_n, hz_n, hz_n, hz_n, hz_n, hz_n, hz_n, hz_n],
  [hz_n, hz_n, hz_n, hz_n, hz_m (.aload_n 0) 1 [] [true, true, false], hz_m (.getfield 47) 3 [11, 5] [], hz_n, hz_n, hz_m (.getfield 144) 3 [6, 7] [], hz_n, hz_n, hz_r (.iload_n 1) 1, hz_r (.iaload) 1, hz_r (.ireturn) 1, hz_m (.aload_n 0) 1 [] [true, true, false], hz_m (.getfield 26) 3 [11, 2] []],
  [hz_n, hz_n, hz_m (.getfield 147) 3 [8, 0] [], hz_n, hz_n, hz_r (.iload_n 1) 1, hz_r (.iaload) 1, hz_r (.ireturn) 1, hz_m (.aload_n 0) 1 [] [true, true, false], hz_m (.getfield 26) 3 [11, 2] [], hz_n, hz_n, hz_m (.getfield 150) 3 [8, 1] [], hz_n, hz_n, hz_r (.iload_n 1) 1],
  [hz_r (.iaload) 1, hz_r (.ireturn) 1, hz_m (.aload_n 0) 1 [] [true, true, false], hz_m (.getfield 47) 3 [11, 5] [], hz_n, hz_n, hz_r (.iload_n 1) 1, hz_m (.invokevirtual 153) 3 [58, 2, 1, 6] [], hz_n, hz_n, hz_r (.ifCond .eq 7) 3, hz_n, hz_n, hz_m (.iconst 1) 1 [] [false, false, false], hz_r (.goto 4) 3, hz_n],
  [hz_n, hz_m (.iconst 0) 1 [] [false, false, false], hz_m (.ireturn) 1 [] [false, false, false], hz_m (.aload_n 0) 1 [] [true, true, false], hz_m (.getfield 47) 3 [11, 5] [], hz_n, hz_n, hz_m (.getfield 156) 3 [6, 8] [], hz_n, hz_n, hz_r (.iload_n 1) 1, hz_r (.iaload) 1, hz_r (.ireturn) 1, hz_m (.aload_n 0) 1 [] [true, true, false], hz_m (.getfield 40) 3 [11, 4] [], hz_n],
  [hz_n, hz_r (.aload_n 0) 1, hz_m (.getfield 47) 3 [11, 5] [], hz_n, hz_n, hz_m (.getfield 144) 3 [6, 7] [], hz_n, hz_n, hz_r (.iload_n 1) 1, hz_r (.iaload) 1, hz_m (.invokevirtual 159) 3 [50, 2, 1, 5] [], hz_n, hz_n, hz_r (.ireturn) 1, hz_m (.aload_n 0) 1 [] [true, true, false], hz_m (.getfield 33) 3 [11, 3] []],
  [hz_n, hz_n, hz_r (.aload_n 0) 1, hz_m (.getfield 47) 3 [11, 5] [], hz_n, hz_n, hz_r (.aload_n 0) 1, hz_m (.getfield 26) 3 [11, 2] [], hz_n, hz_n, hz_r (.iload_n 1) 1, hz_m (.invokevirtual 162) 3 [105, 4, 1, 10] [], hz_n, hz_n, hz_r (.ireturn) 1, hz_m (.aload_n 0) 1 [] [true, true, false]],
  [hz_m (.getfield 26) 3 [11, 2] [], hz_n, hz_n, hz_m (.getfield 137) 3 [8, 2] [], hz_n, hz_n, hz_r (.iload_n 1) 1, hz_r (.iaload) 1, hz_r (.ireturn) 1, hz_m (.new 141) 3 [] [false, false, false], hz_n, hz_n, hz_r (.dup) 1, hz_r (.invokespecial 143) 3, hz_n, hz_n],
  [hz_r (.athrow) 1]]
/-- HeavierServes.change(II)I -/
def hs_k114 : hs_K := [
  [hz_r (.aload_n 0) 1, hz_m (.getfield 26) 3 [11, 2] [], hz_n, hz_n, hz_r (.iload_n 1) 1, hz_m (.invokevirtual 130) 3 [68, 2, 1, 8] [], hz_n, hz_n, hz_r (.ifCond .eq 20) 3, hz_n, hz_n, hz_r (.iload_n 2) 1, hz_r (.ifCond .lt 16) 3, hz_n, hz_n, hz_r (.iload_n 2) 1],
  [hz_r (.aload_n 0) 1, hz_m (.getfield 26) 3 [11, 2] [], hz_n, hz_n, hz_m (.getfield 137) 3 [8, 2] [], hz_n, hz_n, hz_r (.iload_n 1) 1, hz_r (.iaload) 1, hz_r (.if_icmp .lt 11) 3, hz_n, hz_n, hz_m (.new 141) 3 [] [false, false, false], hz_n, hz_n, hz_r (.dup) 1],
  [hz_r (.invokespecial 143) 3, hz_n, hz_n, hz_r (.athrow) 1, hz_r (.aload_n 0) 1, hz_m (.getfield 26) 3 [11, 2] [], hz_n, hz_n, hz_r (.iload_n 1) 1, hz_r (.iload_n 2) 1, hz_m (.invokevirtual 166) 3 [73, 3, 1, 8] [], hz_n, hz_n, hz_r (.ireturn) 1]]
/-- HeavierServes.set(III)I -/
def hs_k115 : hs_K := [
  [hz_r (.aload_n 0) 1, hz_m (.getfield 26) 3 [11, 2] [], hz_n, hz_n, hz_r (.iload_n 2) 1, hz_m (.invokevirtual 130) 3 [68, 2, 1, 8] [], hz_n, hz_n, hz_r (.ifCond .eq 7) 3, hz_n, hz_n, hz_r (.iload_n 3) 1, hz_r (.ifCond .ge 5) 3, hz_n, hz_n, hz_m (.iconst (-1)) 1 [] [false, false, false, false]],
  [hz_r (.ireturn) 1, hz_r (.iload_n 1) 1, hz_r (.ifCond .ne 28) 3, hz_n, hz_n, hz_r (.iload_n 3) 1, hz_r (.iconst 1) 1, hz_r (.if_icmp .lt 23) 3, hz_n, hz_n, hz_r (.iload_n 3) 1, hz_r (.sipush 999) 3, hz_n, hz_n, hz_r (.if_icmp .gt 16) 3, hz_n],
  [hz_n, hz_m (.aload_n 0) 1 [] [true, false, true, true], hz_m (.getfield 47) 3 [11, 5] [], hz_n, hz_n, hz_m (.getfield 144) 3 [6, 7] [], hz_n, hz_n, hz_r (.iload_n 2) 1, hz_r (.iload_n 3) 1, hz_m (.invokestatic 170) 3 [159, 3, 1] [], hz_n, hz_n, hz_r (.ireturn) 1, hz_r (.iload_n 1) 1, hz_r (.iconst 1) 1],
  [hz_r (.if_icmp .ne 21) 3, hz_n, hz_n, hz_r (.iload_n 3) 1, hz_r (.iconst 4) 1, hz_r (.if_icmp .ge 16) 3, hz_n, hz_n, hz_m (.aload_n 0) 1 [] [true, false, true, true], hz_m (.getfield 26) 3 [11, 2] [], hz_n, hz_n, hz_m (.getfield 147) 3 [8, 0] [], hz_n, hz_n, hz_r (.iload_n 2) 1],
  [hz_r (.iload_n 3) 1, hz_m (.invokestatic 170) 3 [159, 3, 1] [], hz_n, hz_n, hz_r (.ireturn) 1, hz_r (.iload_n 1) 1, hz_r (.iconst 2) 1, hz_r (.if_icmp .ne 22) 3, hz_n, hz_n, hz_m (.iload_n 3) 1 [] [true, false, true, true], hz_r (.bipush 9) 2, hz_n, hz_r (.if_icmp .gt 16) 3, hz_n, hz_n],
  [hz_m (.aload_n 0) 1 [] [true, false, true, true], hz_m (.getfield 26) 3 [11, 2] [], hz_n, hz_n, hz_m (.getfield 150) 3 [8, 1] [], hz_n, hz_n, hz_r (.iload_n 2) 1, hz_r (.iload_n 3) 1, hz_m (.invokestatic 170) 3 [159, 3, 1] [], hz_n, hz_n, hz_r (.ireturn) 1, hz_m (.iconst (-1)) 1 [] [false, false, false, false], hz_r (.ireturn) 1]]
/-- HeavierServes.scale(II)Z -/
def hs_k116 : hs_K := [
  [hz_r (.iload_n 1) 1, hz_r (.ifCond .ne 24) 3, hz_n, hz_n, hz_r (.iload_n 2) 1, hz_r (.iconst 1) 1, hz_r (.if_icmp .lt 19) 3, hz_n, hz_n, hz_r (.iload_n 2) 1, hz_r (.bipush 9) 2, hz_n, hz_r (.if_icmp .gt 13) 3, hz_n, hz_n, hz_m (.aload_n 0) 1 [] [true, false, true]],
  [hz_m (.getfield 40) 3 [11, 4] [], hz_n, hz_n, hz_r (.iload_n 2) 1, hz_m (.putfield 174) 3 [5, 0] [], hz_n, hz_n, hz_r (.iconst 1) 1, hz_r (.ireturn) 1, hz_r (.iload_n 1) 1, hz_r (.iconst 1) 1, hz_r (.if_icmp .ne 25) 3, hz_n, hz_n, hz_m (.iload_n 2) 1 [] [true, false, true], hz_r (.bipush (-9)) 2],
  [hz_n, hz_r (.if_icmp .lt 19) 3, hz_n, hz_n, hz_m (.iload_n 2) 1 [] [true, false, true], hz_r (.bipush 9) 2, hz_n, hz_r (.if_icmp .gt 13) 3, hz_n, hz_n, hz_m (.aload_n 0) 1 [] [true, false, true], hz_m (.getfield 40) 3 [11, 4] [], hz_n, hz_n, hz_r (.iload_n 2) 1, hz_m (.putfield 177) 3 [5, 1] []],
  [hz_n, hz_n, hz_r (.iconst 1) 1, hz_r (.ireturn) 1, hz_m (.iconst 0) 1 [] [false, false, false], hz_r (.ireturn) 1]]
/-- HeavierServes.sheet(IIII)I -/
def hs_k117 : hs_K := [
  [hz_m (.iload_n 1) 1 [] [true, true, true, true, true, false, false, false, false], hz_r (.ifCond .lt 14) 3, hz_n, hz_n, hz_m (.iload_n 1) 1 [] [true, true, true, true, true, false, false, false, false], hz_r (.iconst 3) 1, hz_r (.if_icmp .gt 9) 3, hz_n, hz_n, hz_m (.iload_n 2) 1 [] [true, true, true, true, true, false, false, false, false], hz_r (.bipush 8) 2, hz_n, hz_r (.if_icmp .le 5) 3, hz_n, hz_n, hz_m (.iconst (-1)) 1 [] [false, false, false, false, false, false, false, false, false]],
  [hz_r (.ireturn) 1, hz_m (.iload_n 1) 1 [] [true, true, true, true, true, false, false, false, false], hz_r (.iconst 3) 1, hz_r (.if_icmp .eq 10) 3, hz_n, hz_n, hz_m (.iload_n 2) 1 [] [true, true, true, true, true, false, false, false, false], hz_r (.ifCond .ge 6) 3, hz_n, hz_n, hz_m (.bipush (-2)) 2 [] [false, false, false, false, false, false, false, false, false], hz_n, hz_r (.ireturn) 1, hz_m (.iload_n 1) 1 [] [true, true, true, true, true, false, false, false, false], hz_r (.iconst 3) 1, hz_r (.if_icmp .ne 7) 3],
  [hz_n, hz_n, hz_m (.iconst 0) 1 [] [true, true, false, true, true, false, false, false, false], hz_r (.goto 4) 3, hz_n, hz_n, hz_m (.iload_n 2) 1 [] [true, true, true, true, true, false, false, false, false], hz_m (.istore 5) 2 [] [true, true, false, true, true, false, false, false, false], hz_n, hz_r (.iconst 0) 1, hz_r (.istore 6) 2, hz_n, hz_r (.iconst 0) 1, hz_r (.istore 7) 2, hz_n, hz_m (.iload 7) 2 [] [true, true, false, true, true, true, true, true, false]],
  [hz_n, hz_r (.aload_n 0) 1, hz_m (.getfield 26) 3 [11, 2] [], hz_n, hz_n, hz_m (.getfield 110) 3 [8, 9] [], hz_n, hz_n, hz_r (.if_icmp .ge 59) 3, hz_n, hz_n, hz_m (.iload 7) 2 [] [true, true, false, true, true, true, true, true, false], hz_n, hz_r (.iload 5) 2, hz_n, hz_r (.if_icmp .ge 17) 3],
  [hz_n, hz_n, hz_m (.iload_n 1) 1 [] [true, true, false, true, true, true, true, true, false], hz_r (.iload_n 3) 1, hz_r (.iload 7) 2, hz_n, hz_r (.iload 4) 2, hz_n, hz_r (.imul) 1, hz_r (.iadd) 1, hz_m (.invokestatic 180) 3 [161, 2, 1] [], hz_n, hz_n, hz_r (.goto 4) 3, hz_n, hz_n],
  [hz_m (.iconst 1) 1 [] [true, true, false, true, true, true, true, true, false], hz_m (.istore 8) 2 [] [true, true, false, true, true, true, true, true, false], hz_n, hz_r (.aload_n 0) 1, hz_m (.getfield 47) 3 [11, 5] [], hz_n, hz_n, hz_r (.iload 7) 2, hz_n, hz_r (.iload 8) 2, hz_n, hz_m (.invokevirtual 183) 3 [59, 3, 0, 6] [], hz_n, hz_n, hz_r (.iload 6) 2, hz_n],
  [hz_r (.aload_n 0) 1, hz_m (.getfield 47) 3 [11, 5] [], hz_n, hz_n, hz_m (.getfield 144) 3 [6, 7] [], hz_n, hz_n, hz_r (.iload 7) 2, hz_n, hz_r (.iaload) 1, hz_r (.iadd) 1, hz_r (.istore 6) 2, hz_n, hz_r (.iinc 7 1) 3, hz_n, hz_n],
  [hz_r (.goto (-65)) 3, hz_n, hz_n, hz_m (.iload_n 1) 1 [] [false, true, false, false, false, false, true, false, false], hz_r (.iconst 3) 1, hz_r (.if_icmp .ne 8) 3, hz_n, hz_n, hz_m (.bipush (-3)) 2 [] [false, false, false, false, false, false, false, false, false], hz_n, hz_r (.goto 5) 3, hz_n, hz_n, hz_m (.iload 6) 2 [] [false, false, false, false, false, false, true, false, false], hz_n, hz_m (.ireturn) 1 [] [false, false, false, false, false, false, false, false, false]]]
/-- HeavierServes.stand(I)I -/
def hs_k118 : hs_K := [
  [hz_m (.iload_n 1) 1 [] [true, true, false], hz_r (.aload_n 0) 1, hz_m (.getfield 26) 3 [11, 2] [], hz_n, hz_n, hz_m (.invokevirtual 186) 3 [70, 1, 1, 8] [], hz_n, hz_n, hz_r (.iconst (-1)) 1, hz_r (.ixor) 1, hz_r (.iand) 1, hz_r (.ifCond .eq 6) 3, hz_n, hz_n, hz_m (.bipush (-2)) 2 [] [false, false, false], hz_n],
  [hz_r (.ireturn) 1, hz_m (.aload_n 0) 1 [] [true, true, false], hz_m (.getfield 54) 3 [11, 6] [], hz_n, hz_n, hz_r (.aload_n 0) 1, hz_m (.getfield 47) 3 [11, 5] [], hz_n, hz_n, hz_m (.invokevirtual 190) 3 [40, 2, 0, 3] [], hz_n, hz_n, hz_r (.aload_n 0) 1, hz_r (.iload_n 1) 1, hz_r (.iconst 0) 1, hz_m (.invokevirtual 194) 3 [163, 3, 1, 11] []],
  [hz_n, hz_n, hz_r (.istore_n 2) 1, hz_r (.aload_n 0) 1, hz_m (.getfield 19) 3 [11, 1] [], hz_n, hz_n, hz_r (.iload_n 2) 1, hz_r (.iconst (-1)) 1, hz_r (.if_icmp .ne 7) 3, hz_n, hz_n, hz_m (.lconst 0) 1 [] [true, false, true], hz_r (.goto 4) 3, hz_n, hz_n],
  [hz_m (.lconst 1) 1 [] [true, false, true], hz_m (.invokevirtual 197) 3 [45, 2, 0, 4] [true, false, true], hz_n, hz_n, hz_r (.aload_n 0) 1, hz_m (.getfield 19) 3 [11, 1] [], hz_n, hz_n, hz_r (.iload_n 2) 1, hz_r (.iconst 0) 1, hz_m (.invokestatic 201) 3 [2, 2, 1] [], hz_n, hz_n, hz_r (.i2l) 1, hz_m (.invokevirtual 206) 3 [46, 2, 0, 4] [], hz_n],
  [hz_n, hz_r (.aload_n 0) 1, hz_m (.getfield 47) 3 [11, 5] [], hz_n, hz_n, hz_m (.getfield 209) 3 [6, 1] [], hz_n, hz_n, hz_r (.ireturn) 1]]
/-- HeavierServes.weeks(I)I -/
def hs_k119 : hs_K := [
  [hz_m (.iload_n 1) 1 [] [true, true, false, false, false, false], hz_r (.ifCond .lt 9) 3, hz_n, hz_n, hz_m (.iload_n 1) 1 [] [true, true, false, false, false, false], hz_r (.bipush 99) 2, hz_n, hz_r (.if_icmp .le 5) 3, hz_n, hz_n, hz_m (.iconst (-1)) 1 [] [false, false, false, false, false, false], hz_r (.ireturn) 1, hz_m (.iload_n 1) 1 [] [true, true, false, false, false, false], hz_r (.ifCond .le 14) 3, hz_n, hz_n],
  [hz_m (.aload_n 0) 1 [] [true, true, false, false, false, false], hz_m (.getfield 54) 3 [11, 6] [], hz_n, hz_n, hz_r (.aload_n 0) 1, hz_m (.getfield 47) 3 [11, 5] [], hz_n, hz_n, hz_m (.invokevirtual 190) 3 [40, 2, 0, 3] [], hz_n, hz_n, hz_m (.iconst 0) 1 [] [true, true, false, false, false, false], hz_r (.istore_n 2) 1, hz_r (.iconst 0) 1, hz_r (.istore_n 3) 1, hz_r (.iconst 0) 1],
  [hz_r (.istore 4) 2, hz_n, hz_m (.iload 4) 2 [] [true, true, true, true, true, false], hz_n, hz_r (.iload_n 1) 1, hz_r (.if_icmp .ge 33) 3, hz_n, hz_n, hz_m (.aload_n 0) 1 [] [true, true, true, true, true, false], hz_r (.iconst 0) 1, hz_r (.sipush 255) 3, hz_n, hz_n, hz_m (.invokevirtual 194) 3 [163, 3, 1, 11] [], hz_n, hz_n],
  [hz_r (.istore 5) 2, hz_n, hz_r (.iload 5) 2, hz_n, hz_r (.iconst (-1)) 1, hz_r (.if_icmp .eq 11) 3, hz_n, hz_n, hz_r (.iinc 2 1) 3, hz_n, hz_n, hz_r (.iload_n 3) 1, hz_r (.iload 5) 2, hz_n, hz_r (.iadd) 1, hz_r (.istore_n 3) 1],
  [hz_m (.iinc 4 1) 3 [] [true, true, true, true, true, false], hz_n, hz_n, hz_r (.goto (-33)) 3, hz_n, hz_n, hz_m (.aload_n 0) 1 [] [true, false, true, true, false, false], hz_m (.getfield 19) 3 [11, 1] [], hz_n, hz_n, hz_r (.aload_n 0) 1, hz_m (.getfield 47) 3 [11, 5] [], hz_n, hz_n, hz_m (.getfield 209) 3 [6, 1] [], hz_n],
  [hz_n, hz_r (.i2l) 1, hz_m (.invokevirtual 197) 3 [45, 2, 0, 4] [], hz_n, hz_n, hz_r (.aload_n 0) 1, hz_m (.getfield 19) 3 [11, 1] [], hz_n, hz_n, hz_r (.iload_n 3) 1, hz_r (.i2l) 1, hz_m (.invokevirtual 206) 3 [46, 2, 0, 4] [], hz_n, hz_n, hz_r (.iload_n 2) 1, hz_r (.ireturn) 1]]
/-- HeavierServes.year()I -/
def hs_k120 : hs_K := [
  [hz_m (.aload_n 0) 1 [] [true, false, false], hz_m (.getfield 10) 3 [11, 0] [], hz_n, hz_n, hz_r (.bipush 60) 2, hz_n, hz_m (.invokevirtual 212) 3 [65, 2, 0, 7] [], hz_n, hz_n, hz_r (.aload_n 0) 1, hz_m (.invokevirtual 215) 3 [164, 1, 1, 11] [], hz_n, hz_n, hz_r (.istore_n 1) 1, hz_r (.iload_n 1) 1, hz_r (.iconst (-1)) 1],
  [hz_r (.if_icmp .ne 10) 3, hz_n, hz_n, hz_m (.aload_n 0) 1 [] [true, false, false], hz_m (.invokevirtual 218) 3 [165, 1, 1, 11] [], hz_n, hz_n, hz_r (.goto 6) 3, hz_n, hz_n, hz_m (.iconst (-1)) 1 [] [true, true, false], hz_r (.iload_n 1) 1, hz_r (.isub) 1, hz_m (.istore_n 2) 1 [] [true, false, false], hz_r (.aload_n 0) 1, hz_m (.getfield 10) 3 [11, 0] []],
  [hz_n, hz_n, hz_r (.iconst 0) 1, hz_m (.putfield 99) 3 [7, 1] [], hz_n, hz_n, hz_r (.iload_n 2) 1, hz_r (.ireturn) 1]]
/-- HeavierServes.law()I -/
def hs_k121 : hs_K := [
  [hz_r (.aload_n 0) 1, hz_m (.getfield 47) 3 [11, 5] [], hz_n, hz_n, hz_m (.getfield 209) 3 [6, 1] [], hz_n, hz_n, hz_r (.iconst (-1)) 1, hz_r (.if_icmp .ne 6) 3, hz_n, hz_n, hz_m (.bipush (-2)) 2 [] [false], hz_n, hz_r (.ireturn) 1, hz_r (.aload_n 0) 1, hz_m (.getfield 47) 3 [11, 5] []],
  [hz_n, hz_n, hz_m (.getfield 221) 3 [6, 6] [], hz_n, hz_n, hz_r (.bipush 12) 2, hz_n, hz_r (.if_icmp .lt 6) 3, hz_n, hz_n, hz_m (.bipush (-3)) 2 [] [false], hz_n, hz_r (.ireturn) 1, hz_r (.aload_n 0) 1, hz_m (.getfield 54) 3 [11, 6] [], hz_n],
  [hz_n, hz_r (.aload_n 0) 1, hz_m (.getfield 47) 3 [11, 5] [], hz_n, hz_n, hz_m (.invokevirtual 190) 3 [40, 2, 0, 3] [], hz_n, hz_n, hz_r (.aload_n 0) 1, hz_m (.getfield 47) 3 [11, 5] [], hz_n, hz_n, hz_m (.invokevirtual 224) 3 [60, 1, 1, 6] [], hz_n, hz_n, hz_r (.ireturn) 1]]
/-- HeavierServes.laws(II)I -/
def hs_k122 : hs_K := [
  [hz_r (.iload_n 1) 1, hz_r (.ifCond .lt 14) 3, hz_n, hz_n, hz_r (.iload_n 1) 1, hz_r (.aload_n 0) 1, hz_m (.getfield 47) 3 [11, 5] [], hz_n, hz_n, hz_m (.getfield 221) 3 [6, 6] [], hz_n, hz_n, hz_r (.if_icmp .lt 11) 3, hz_n, hz_n, hz_m (.new 141) 3 [] [false, false, false]],
  [hz_n, hz_n, hz_r (.dup) 1, hz_r (.invokespecial 143) 3, hz_n, hz_n, hz_r (.athrow) 1, hz_r (.iload_n 2) 1, hz_r (.tableswitch 74 0 3 #[32, 42, 52, 64]) 32, hz_n, hz_n, hz_n, hz_n, hz_n, hz_n, hz_n],
  [hz_n, hz_n, hz_n, hz_n, hz_n, hz_n, hz_n, hz_n, hz_n, hz_n, hz_n, hz_n, hz_n, hz_n, hz_n, hz_n],
  [hz_n, hz_n, hz_n, hz_n, hz_n, hz_n, hz_n, hz_n, hz_m (.aload_n 0) 1 [] [true, true, false], hz_m (.getfield 47) 3 [11, 5] [], hz_n, hz_n, hz_m (.getfield 227) 3 [6, 9] [], hz_n, hz_n, hz_r (.iload_n 1) 1],
  [hz_r (.iaload) 1, hz_r (.ireturn) 1, hz_m (.aload_n 0) 1 [] [true, true, false], hz_m (.getfield 47) 3 [11, 5] [], hz_n, hz_n, hz_m (.getfield 230) 3 [6, 10] [], hz_n, hz_n, hz_r (.iload_n 1) 1, hz_r (.iaload) 1, hz_r (.ireturn) 1, hz_m (.aload_n 0) 1 [] [true, true, false], hz_m (.getfield 47) 3 [11, 5] [], hz_n, hz_n],
  [hz_m (.getfield 233) 3 [6, 4] [], hz_n, hz_n, hz_r (.iload_n 1) 1, hz_r (.ishr) 1, hz_r (.iconst 1) 1, hz_r (.iand) 1, hz_r (.ireturn) 1, hz_m (.aload_n 0) 1 [] [true, true, false], hz_m (.getfield 47) 3 [11, 5] [], hz_n, hz_n, hz_m (.getfield 236) 3 [6, 11] [], hz_n, hz_n, hz_r (.iload_n 1) 1],
  [hz_r (.iaload) 1, hz_r (.ireturn) 1, hz_m (.new 141) 3 [] [false, false, false], hz_n, hz_n, hz_r (.dup) 1, hz_r (.invokespecial 143) 3, hz_n, hz_n, hz_r (.athrow) 1]]
/-- HeavierServes.feed(II)I -/
def hs_k123 : hs_K := [
  [hz_r (.aload_n 0) 1, hz_r (.iload_n 1) 1, hz_r (.iload_n 2) 1, hz_r (.iconst 1) 1, hz_m (.invokevirtual 239) 3 [162, 4, 1, 11] [], hz_n, hz_n, hz_r (.ireturn) 1]]
/-- HeavierServes.fast(II)I -/
def hs_k124 : hs_K := [
  [hz_r (.aload_n 0) 1, hz_r (.iload_n 1) 1, hz_r (.iload_n 2) 1, hz_r (.iconst (-1)) 1, hz_m (.invokevirtual 239) 3 [162, 4, 1, 11] [], hz_n, hz_n, hz_r (.ireturn) 1]]
/-- HeavierServes.dies(I)I -/
def hs_k125 : hs_K := [
  [hz_r (.aload_n 0) 1, hz_r (.iload_n 1) 1, hz_m (.invokevirtual 243) 3 [158, 2, 1, 11] [], hz_n, hz_n, hz_r (.ifCond .ne 5) 3, hz_n, hz_n, hz_m (.iconst (-1)) 1 [] [false, false], hz_r (.ireturn) 1, hz_r (.aload_n 0) 1, hz_m (.getfield 54) 3 [11, 6] [], hz_n, hz_n, hz_r (.aload_n 0) 1, hz_m (.getfield 47) 3 [11, 5] []],
  [hz_n, hz_n, hz_m (.invokevirtual 190) 3 [40, 2, 0, 3] [], hz_n, hz_n, hz_r (.aload_n 0) 1, hz_m (.getfield 47) 3 [11, 5] [], hz_n, hz_n, hz_r (.iload_n 1) 1, hz_m (.invokevirtual 246) 3 [62, 2, 1, 6] [], hz_n, hz_n, hz_r (.ireturn) 1]]
/-- HeavierServes.undo()I -/
def hs_k126 : hs_K := [
  [hz_r (.aload_n 0) 1, hz_m (.getfield 54) 3 [11, 6] [], hz_n, hz_n, hz_r (.aload_n 0) 1, hz_m (.getfield 47) 3 [11, 5] [], hz_n, hz_n, hz_m (.invokevirtual 249) 3 [41, 2, 1, 3] [], hz_n, hz_n, hz_r (.ifCond .eq 13) 3, hz_n, hz_n, hz_r (.aload_n 0) 1, hz_m (.getfield 54) 3 [11, 6] []],
  [hz_n, hz_n, hz_m (.getfield 253) 3 [3, 4] [], hz_n, hz_n, hz_r (.goto 4) 3, hz_n, hz_n, hz_m (.iconst (-1)) 1 [] [false], hz_m (.ireturn) 1 [] [false]]]
/-- HeavierServes.served(I)I -/
def hs_k127 : hs_K := [
  [hz_r (.iload_n 1) 1, hz_r (.ifCond .lt 28) 3, hz_n, hz_n, hz_r (.iload_n 1) 1, hz_r (.aload_n 0) 1, hz_m (.getfield 47) 3 [11, 5] [], hz_n, hz_n, hz_m (.getfield 256) 3 [6, 0] [], hz_n, hz_n, hz_r (.if_icmp .ge 17) 3, hz_n, hz_n, hz_r (.iload_n 1) 1],
  [hz_r (.aload_n 0) 1, hz_m (.getfield 47) 3 [11, 5] [], hz_n, hz_n, hz_m (.getfield 256) 3 [6, 0] [], hz_n, hz_n, hz_r (.bipush 60) 2, hz_n, hz_r (.isub) 1, hz_r (.if_icmp .ge 6) 3, hz_n, hz_n, hz_m (.bipush (-2)) 2 [] [false, false], hz_n, hz_r (.ireturn) 1],
  [hz_r (.aload_n 0) 1, hz_m (.getfield 47) 3 [11, 5] [], hz_n, hz_n, hz_m (.getfield 259) 3 [6, 12] [], hz_n, hz_n, hz_r (.iload_n 1) 1, hz_r (.bipush 60) 2, hz_n, hz_r (.irem) 1, hz_r (.iaload) 1, hz_r (.ireturn) 1]]
/-- HeavierServes.later(II)I -/
def hs_k128 : hs_K := [
  [hz_r (.aload_n 0) 1, hz_r (.iload_n 1) 1, hz_m (.invokevirtual 243) 3 [158, 2, 1, 11] [], hz_n, hz_n, hz_r (.ifCond .eq 13) 3, hz_n, hz_n, hz_r (.iload_n 2) 1, hz_r (.ifCond .lt 9) 3, hz_n, hz_n, hz_r (.iload_n 2) 1, hz_r (.bipush 99) 2, hz_n, hz_r (.if_icmp .le 5) 3],
  [hz_n, hz_n, hz_m (.iconst (-1)) 1 [] [false, false, false], hz_r (.ireturn) 1, hz_r (.aload_n 0) 1, hz_m (.getfield 26) 3 [11, 2] [], hz_n, hz_n, hz_r (.aload_n 0) 1, hz_m (.getfield 47) 3 [11, 5] [], hz_n, hz_n, hz_r (.iload_n 1) 1, hz_r (.iload_n 2) 1, hz_m (.invokevirtual 262) 3 [75, 4, 1, 8] [], hz_n],
  [hz_n, hz_r (.ireturn) 1]]
/-- HeavierServes.then(I)I -/
def hs_k129 : hs_K := [
  [hz_r (.iload_n 1) 1, hz_r (.ifCond .lt 9) 3, hz_n, hz_n, hz_r (.iload_n 1) 1, hz_r (.bipush 99) 2, hz_n, hz_r (.if_icmp .le 8) 3, hz_n, hz_n, hz_m (.bipush (-2)) 2 [] [false, false], hz_n, hz_r (.goto 11) 3, hz_n, hz_n, hz_r (.aload_n 0) 1],
  [hz_m (.getfield 84) 3 [11, 10] [], hz_n, hz_n, hz_r (.iload_n 1) 1, hz_m (.invokevirtual 266) 3 [7, 2, 1, 0] [], hz_n, hz_n, hz_m (.ireturn) 1 [] [false, false]]]
/-- HeavierServes.soonest(I)I -/
def hs_k130 : hs_K := [
  [hz_r (.aload_n 0) 1, hz_m (.getfield 26) 3 [11, 2] [], hz_n, hz_n, hz_r (.iload_n 1) 1, hz_m (.invokevirtual 130) 3 [68, 2, 1, 8] [], hz_n, hz_n, hz_r (.ifCond .ne 5) 3, hz_n, hz_n, hz_m (.iconst (-1)) 1 [] [false, false], hz_r (.ireturn) 1, hz_r (.aload_n 0) 1, hz_m (.getfield 47) 3 [11, 5] [], hz_n],
  [hz_n, hz_m (.getfield 209) 3 [6, 1] [], hz_n, hz_n, hz_r (.iload_n 1) 1, hz_r (.if_icmp .ne 8) 3, hz_n, hz_n, hz_m (.bipush (-3)) 2 [] [false, false], hz_n, hz_r (.goto 11) 3, hz_n, hz_n, hz_r (.aload_n 0) 1, hz_m (.getfield 84) 3 [11, 10] [], hz_n],
  [hz_n, hz_r (.iload_n 1) 1, hz_m (.invokevirtual 269) 3 [8, 2, 1, 0] [], hz_n, hz_n, hz_m (.ireturn) 1 [] [false, false]]]
/-- HeavierServes.ever(I)I -/
def hs_k131 : hs_K := [
  [hz_r (.iload_n 1) 1, hz_r (.ifCond .lt 9) 3, hz_n, hz_n, hz_r (.iload_n 1) 1, hz_r (.bipush 12) 2, hz_n, hz_r (.if_icmp .le 7) 3, hz_n, hz_n, hz_m (.iconst (-1)) 1 [] [false, false], hz_r (.goto 11) 3, hz_n, hz_n, hz_r (.aload_n 0) 1, hz_m (.getfield 84) 3 [11, 10] []],
  [hz_n, hz_n, hz_r (.iload_n 1) 1, hz_m (.invokevirtual 272) 3 [9, 2, 1, 0] [], hz_n, hz_n, hz_m (.ireturn) 1 [] [false, false]]]
/-- HeavierServes.most(II)I -/
def hs_k132 : hs_K := [
  [hz_r (.aload_n 0) 1, hz_r (.iload_n 1) 1, hz_m (.invokevirtual 243) 3 [158, 2, 1, 11] [], hz_n, hz_n, hz_r (.ifCond .eq 13) 3, hz_n, hz_n, hz_r (.iload_n 2) 1, hz_r (.ifCond .lt 9) 3, hz_n, hz_n, hz_r (.iload_n 2) 1, hz_r (.bipush 10) 2, hz_n, hz_r (.if_icmp .le 7) 3],
  [hz_n, hz_n, hz_m (.iconst (-1)) 1 [] [false, false, false], hz_r (.goto 12) 3, hz_n, hz_n, hz_r (.aload_n 0) 1, hz_m (.getfield 84) 3 [11, 10] [], hz_n, hz_n, hz_r (.iload_n 1) 1, hz_r (.iload_n 2) 1, hz_m (.invokevirtual 275) 3 [12, 3, 1, 0] [], hz_n, hz_n, hz_m (.ireturn) 1 [] [false, false, false]]]
/-- HeavierServes.rests(II)I -/
def hs_k133 : hs_K := [
  [hz_r (.iload_n 1) 1, hz_r (.iconst 1) 1, hz_r (.if_icmp .lt 18) 3, hz_n, hz_n, hz_r (.iload_n 1) 1, hz_r (.iconst 4) 1, hz_r (.if_icmp .gt 13) 3, hz_n, hz_n, hz_r (.iload_n 2) 1, hz_r (.ifCond .lt 9) 3, hz_n, hz_n, hz_r (.iload_n 2) 1, hz_r (.bipush 20) 2],
  [hz_n, hz_r (.if_icmp .le 7) 3, hz_n, hz_n, hz_m (.iconst (-1)) 1 [] [false, false, false], hz_r (.goto 12) 3, hz_n, hz_n, hz_r (.aload_n 0) 1, hz_m (.getfield 84) 3 [11, 10] [], hz_n, hz_n, hz_r (.iload_n 1) 1, hz_r (.iload_n 2) 1, hz_m (.invokevirtual 278) 3 [18, 3, 1, 0] [], hz_n],
  [hz_n, hz_m (.ireturn) 1 [] [false, false, false]]]
