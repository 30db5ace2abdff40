def fK0_freeCash (this_ : Fin 8) (I : FI) (L : FL) : Option (Int64) :=
some ((L 0 this_.val) - (L 2 this_.val))

def fK0_freeGoods (this_ : Fin 8) (I : FI) (L : FL) : Option (Int64) :=
some ((L 1 this_.val) - (L 3 this_.val))

def fK5_cutIntoWords_89 (k9 : Int32 → Int32 → FI → FL → Option (Int32 × FI × FL)) (v1 : Int32) (v2 : Int32) (I : FI) (L : FL) : Option (Int32 × FI × FL) :=
nm (v2 + 1) (fun x_1 => k9 v1 x_1 I L)
def fK5_cutIntoWords_39 (k9 : Int32 → Int32 → FI → FL → Option (Int32 × FI × FL)) (v1 : Int32) (v2 : Int32) (I : FI) (L : FL) : Option (Int32 × FI × FL) :=
(if v2 = v1 then some (0, I, L) else (if (I 12 0) < 7 then ck (inb (I 12 0) 7) (nm (sI I 13 (I 12 0).toNatClampNeg v1) (fun I_4 => ck (inb (I_4 12 0) 7) (nm (sI I_4 14 (I_4 12 0).toNatClampNeg v2) (fun I_6 => nm (sI I_6 12 0 ((I_6 12 0) + 1)) (fun I_7 => nm (v2 + 1) (fun x_8 => fK5_cutIntoWords_89 k9 x_8 v2 I_7 L)))))) else some (0, I, L)))
def bK5_cutIntoWords_9 (k9 : Int32 → Int32 → FI → FL → Option (Int32 × FI × FL)) (v1 : Int32) (v2 : Int32) (I : FI) (L : FL) : Option (Int32 × FI × FL) :=
(if (I 11 0) < v2 then some (1, I, L) else (if (I 11 0) ≤ v2 then fK5_cutIntoWords_39 k9 v1 v2 I L else ck (inb v2 40) ((if (I 6 v2.toNatClampNeg) = 32 then fK5_cutIntoWords_39 k9 v1 v2 I L else fK5_cutIntoWords_89 k9 v1 v2 I L))))
def fK5_cutIntoWords_9 : Nat → Int32 → Int32 → FI → FL → Option (Int32 × FI × FL)
  | 0 => fun _ _ _ _ => none
  | n + 1 => bK5_cutIntoWords_9 (fK5_cutIntoWords_9 n)
def fK5_cutIntoWords (I : FI) (L : FL) : Option (Int32 × FI × FL) :=
nm (sI I 12 0 0) (fun I_1 => fK5_cutIntoWords_9 FU 0 0 I_1 L)

def bK5_says_36 (k36 : Int32 → Nat → Int32 → FI → FL → Option (Int32)) (v1 : Int32) (v2 : Nat) (v3 : Int32) (I : FI) (L : FL) : Option (Int32) :=
ck (decide (v2 < nJS)) ((if (nI (lenJS.getD v2 0)) ≤ v3 then some 1 else ck (inb v1 7) (ck (inb ((I 13 v1.toNatClampNeg) + v3) 40) (ck (decide (v2 < nJS)) (ck (inb v3 (lenJS.getD v2 0)) ((if (I 6 ((I 13 v1.toNatClampNeg) + v3).toNatClampNeg) = (chJS v2 v3) then nm (v3 + 1) (fun x_8 => k36 v1 v2 x_8 I L) else some 0)))))))
def fK5_says_36 : Nat → Int32 → Nat → Int32 → FI → FL → Option (Int32)
  | 0 => fun _ _ _ _ _ => none
  | n + 1 => bK5_says_36 (fK5_says_36 n)
def fK5_says (a1 : Int32) (a2 : Nat) (I : FI) (L : FL) : Option (Int32) :=
(if a1 < 0 then some 0 else (if (I 12 0) ≤ a1 then some 0 else ck (inb a1 7) (ck (inb a1 7) (ck (decide (a2 < nJS)) ((if ((I 14 a1.toNatClampNeg) - (I 13 a1.toNatClampNeg)) = (nI (lenJS.getD a2 0)) then fK5_says_36 FU a1 a2 0 I L else some 0))))))

def bK5_number_41 (k41 : Int32 → Int32 → Int32 → FI → FL → Option (Int32)) (v1 : Int32) (v2 : Int32) (v3 : Int32) (I : FI) (L : FL) : Option (Int32) :=
ck (inb v1 7) ((if (I 14 v1.toNatClampNeg) ≤ v3 then some v2 else ck (inb v3 40) ((if (I 6 v3.toNatClampNeg) < 48 then some (-1) else ck (inb v3 40) ((if (I 6 v3.toNatClampNeg) ≤ 57 then ck (inb v3 40) (nm (((v2 * 10) + (I 6 v3.toNatClampNeg)) - 48) (fun x_8 => nm (v3 + 1) (fun x_9 => k41 v1 x_8 x_9 I L))) else some (-1)))))))
def fK5_number_41 : Nat → Int32 → Int32 → Int32 → FI → FL → Option (Int32)
  | 0 => fun _ _ _ _ _ => none
  | n + 1 => bK5_number_41 (fK5_number_41 n)
def fK5_number (a1 : Int32) (I : FI) (L : FL) : Option (Int32) :=
(if a1 < 0 then some (-1) else (if (I 12 0) ≤ a1 then some (-1) else ck (inb a1 7) (ck (inb a1 7) ((if ((I 14 a1.toNatClampNeg) - (I 13 a1.toNatClampNeg)) ≤ 7 then ck (inb a1 7) (nm (I 13 a1.toNatClampNeg) (fun x_7 => fK5_number_41 FU a1 0 x_7 I L)) else some (-1))))))

def fK5_numberFrom (a1 : Int32) (a2 : Int32) (a3 : Int32) (I : FI) (L : FL) : Option (Int32) :=
bn (fK5_number a1 I L) (fun r_2 => (if r_2 < a2 then some (-1) else (if a3 < r_2 then some (-1) else some r_2)))

def fK1_readOwner (a2 : Int32) (I : FI) (L : FL) : Option (Int32 × FI × FL) :=
bn (fK5_numberFrom a2 0 7 I L) (fun r_2 => nm (sI I 15 1 r_2) (fun I_3 => (if (I_3 15 1) = (-1) then some (0, I_3, L) else some (1, I_3, L))))

def fK1_readBasics_51 (v2 : Int32) (I : FI) (L : FL) : Option (Int32 × FI × FL) :=
bq (fK1_readOwner (v2 + 1) I L) (fun r_2 I_3 L_4 => (if r_2 = 0 then some (0, I_3, L_4) else (if (I_3 15 3) = (-1) then some (0, I_3, L_4) else some (1, I_3, L_4))))
def fK1_readBasics_16 (v2 : Int32) (u0 : Int32) (I : FI) (L : FL) : Option (Int32 × FI × FL) :=
nm (sI I 15 2 u0) (fun I_1 => bn (fK5_numberFrom (v2 + 2) 1 9999 I_1 L) (fun r_3 => nm (sI I_1 15 3 r_3) (fun I_4 => (if (I_4 15 2) = 0 then fK1_readBasics_51 v2 I_4 L else bn (fK5_says v2 1 I_4 L) (fun r_7 => (if r_7 = 0 then some (0, I_4, L) else fK1_readBasics_51 v2 I_4 L))))))
def fK1_readBasics (a2 : Int32) (I : FI) (L : FL) : Option (Int32 × FI × FL) :=
bn (fK5_says a2 0 I L) (fun r_2 => (if r_2 = 0 then fK1_readBasics_16 a2 1 I L else fK1_readBasics_16 a2 0 I L))

def fK1_readPrice (a2 : Int32) (I : FI) (L : FL) : Option (Int32 × FI × FL) :=
bn (fK5_numberFrom (a2 + 1) 1 9999 I L) (fun r_2 => nm (sI I 15 4 r_2) (fun I_3 => bn (fK5_says a2 3 I_3 L) (fun r_5 => (if r_5 = 0 then some (0, I_3, L) else (if (I_3 15 4) = (-1) then some (0, I_3, L) else some (1, I_3, L))))))

def fK1_readTicks (a2 : Int32) (I : FI) (L : FL) : Option (Int32 × FI × FL) :=
bn (fK5_numberFrom a2 1 99 I L) (fun r_2 => nm (sI I 15 6 r_2) (fun I_3 => (if (I_3 15 6) = (-1) then some (0, I_3, L) else some (1, I_3, L))))

def fK1_readWay_107 (u0 : Int32) (u1 : Int32) (I : FI) (L : FL) : Option (Int32 × FI × FL) :=
(if u1 = u0 then some (1, I, L) else some (0, I, L))
def fK1_readWay_86 (v2 : Int32) (u0 : Int32) (I : FI) (L : FL) : Option (Int32 × FI × FL) :=
nm (sI I 15 5 u0) (fun I_1 => (if (I_1 15 5) = 0 then fK1_readWay_107 v2 (I_1 12 0) I_1 L else fK1_readWay_107 (v2 + 1) (I_1 12 0) I_1 L))
def fK1_readWay (a2 : Int32) (I : FI) (L : FL) : Option (Int32 × FI × FL) :=
bn (fK5_says a2 4 I L) (fun r_2 => (if r_2 = 0 then bn (fK5_says a2 5 I L) (fun r_5 => (if r_5 = 0 then bn (fK5_says a2 6 I L) (fun r_8 => (if r_8 = 0 then bn (fK5_says a2 7 I L) (fun r_11 => (if r_11 = 0 then fK1_readWay_86 a2 0 I L else fK1_readWay_86 a2 3 I L)) else fK1_readWay_86 a2 2 I L)) else fK1_readWay_86 a2 1 I L)) else nm (sI I 15 5 4) (fun I_13 => (if (I_13 12 0) = (a2 + 2) then bq (fK1_readTicks (a2 + 1) I_13 L) (fun r_16 I_17 L_18 => (if r_16 = 0 then some (0, I_17, L_18) else some (1, I_17, L_18))) else some (0, I_13, L)))))

def fK1_readOrder_36 (I : FI) (L : FL) : Option (Int32 × FI × FL) :=
bq (fK1_readPrice 3 I L) (fun r_2 I_3 L_4 => (if r_2 = 0 then some (0, I_3, L_4) else bq (fK1_readWay 5 I_3 L_4) (fun r_7 I_8 L_9 => (if r_7 = 0 then some (0, I_8, L_9) else some (4, I_8, L_9)))))
def fK1_readOrder (I : FI) (L : FL) : Option (Int32 × FI × FL) :=
bq (fK1_readBasics 0 I L) (fun r_2 I_3 L_4 => (if r_2 = 0 then some (0, I_3, L_4) else (if (I_3 12 0) = 4 then bn (fK5_says 3 2 I_3 L_4) (fun r_8 => (if r_8 = 0 then fK1_readOrder_36 I_3 L_4 else nm (sI I_3 15 4 0) (fun I_10 => some (5, I_10, L_4)))) else fK1_readOrder_36 I_3 L_4)))

def fK1_readStop (I : FI) (L : FL) : Option (Int32 × FI × FL) :=
(if (I 12 0) = 6 then bq (fK1_readBasics 1 I L) (fun r_3 I_4 L_5 => (if r_3 = 0 then some (0, I_4, L_5) else bq (fK1_readPrice 4 I_4 L_5) (fun r_8 I_9 L_10 => (if r_8 = 0 then some (0, I_9, L_10) else some (6, I_9, L_10))))) else some (0, I, L))

def fK1_readAmount (a2 : Int32) (I : FI) (L : FL) : Option (Int32 × FI × FL) :=
bn (fK5_number 2 I L) (fun r_2 => nm (sI I 15 8 r_2) (fun I_3 => (if (I_3 12 0) = 3 then bq (fK1_readOwner 1 I_3 L) (fun r_6 I_7 L_8 => (if r_6 = 0 then some (0, I_7, L_8) else (if (I_7 15 8) = (-1) then some (0, I_7, L_8) else some (a2, I_7, L_8)))) else some (0, I_3, L))))

def fK1_readCancel (I : FI) (L : FL) : Option (Int32 × FI × FL) :=
bn (fK5_number 2 I L) (fun r_2 => nm (sI I 15 7 r_2) (fun I_3 => (if (I_3 12 0) = 3 then bq (fK1_readOwner 1 I_3 L) (fun r_6 I_7 L_8 => (if r_6 = 0 then some (0, I_7, L_8) else (if (I_7 15 7) = (-1) then some (0, I_7, L_8) else some (7, I_7, L_8)))) else some (0, I_3, L))))

def fK1_readLess (I : FI) (L : FL) : Option (Int32 × FI × FL) :=
bn (fK5_number 2 I L) (fun r_2 => nm (sI I 15 7 r_2) (fun I_3 => bn (fK5_number 3 I_3 L) (fun r_5 => nm (sI I_3 15 8 r_5) (fun I_6 => (if (I_6 12 0) = 4 then bq (fK1_readOwner 1 I_6 L) (fun r_9 I_10 L_11 => (if r_9 = 0 then some (0, I_10, L_11) else (if (I_10 15 7) = (-1) then some (0, I_10, L_11) else (if (I_10 15 8) = (-1) then some (0, I_10, L_11) else some (8, I_10, L_11))))) else some (0, I_6, L))))))

def fK1_readTick (I : FI) (L : FL) : Option (Int32 × FI × FL) :=
(if (I 12 0) = 2 then bq (fK1_readTicks 1 I L) (fun r_3 I_4 L_5 => (if r_3 = 0 then some (0, I_4, L_5) else some (9, I_4, L_5))) else some (0, I, L))

def fK1_read_33 (I : FI) (L : FL) : Option (FI × FL) :=
bq (fK1_readOrder I L) (fun r_2 I_3 L_4 => nm (sI I_3 15 0 r_2) (fun I_5 => some (I_5, L_4)))
def fK1_read (I : FI) (L : FL) : Option (FI × FL) :=
nm (sI I 15 0 0) (fun I_1 => bq (fK5_cutIntoWords I_1 L) (fun r_3 I_4 L_5 => (if r_3 = 0 then some (I_4, L_5) else bn (fK5_says 0 0 I_4 L_5) (fun r_8 => (if r_8 = 0 then bn (fK5_says 0 1 I_4 L_5) (fun r_11 => (if r_11 = 0 then bn (fK5_says 0 8 I_4 L_5) (fun r_14 => (if r_14 = 0 then bn (fK5_says 0 9 I_4 L_5) (fun r_17 => (if r_17 = 0 then bn (fK5_says 0 10 I_4 L_5) (fun r_20 => (if r_20 = 0 then bn (fK5_says 0 11 I_4 L_5) (fun r_23 => (if r_23 = 0 then bn (fK5_says 0 12 I_4 L_5) (fun r_26 => (if r_26 = 0 then bn (fK5_says 0 13 I_4 L_5) (fun r_29 => (if r_29 = 0 then bn (fK5_says 0 14 I_4 L_5) (fun r_32 => (if r_32 = 0 then some (I_4, L_5) else bq (fK1_readTick I_4 L_5) (fun r_35 I_36 L_37 => nm (sI I_36 15 0 r_35) (fun I_38 => some (I_38, L_37))))) else bq (fK1_readLess I_4 L_5) (fun r_40 I_41 L_42 => nm (sI I_41 15 0 r_40) (fun I_43 => some (I_43, L_42))))) else bq (fK1_readCancel I_4 L_5) (fun r_45 I_46 L_47 => nm (sI I_46 15 0 r_45) (fun I_48 => some (I_48, L_47))))) else bq (fK1_readAmount 3 I_4 L_5) (fun r_50 I_51 L_52 => nm (sI I_51 15 0 r_50) (fun I_53 => some (I_53, L_52))))) else bq (fK1_readAmount 2 I_4 L_5) (fun r_55 I_56 L_57 => nm (sI I_56 15 0 r_55) (fun I_58 => some (I_58, L_57))))) else bq (fK1_readAmount 1 I_4 L_5) (fun r_60 I_61 L_62 => nm (sI I_61 15 0 r_60) (fun I_63 => some (I_63, L_62))))) else bq (fK1_readStop I_4 L_5) (fun r_65 I_66 L_67 => nm (sI I_66 15 0 r_65) (fun I_68 => some (I_68, L_67))))) else fK1_read_33 I_4 L_5)) else fK1_read_33 I_4 L_5)))))

def fK2_moveAmount (I : FI) (L : FL) : Option (Int32 × FI × FL) :=
g8 (I 15 1) (fun o_2 => (if (I 15 0) = 2 then nm (sL L 1 o_2.val ((L 1 o_2.val) + ((I 15 8).toInt64))) (fun L_10 => some (I 15 8, I, L_10)) else (if (I 15 0) = 1 then nm (sL L 0 o_2.val ((L 0 o_2.val) + ((I 15 8).toInt64))) (fun L_9 => some (I 15 8, I, L_9)) else bn (fK0_freeCash o_2 I L) (fun r_6 => (if 0 ≤ (lg_cmp r_6 ((I 15 8).toInt64)) then nm (sL L 0 o_2.val ((L 0 o_2.val) - ((I 15 8).toInt64))) (fun L_8 => some (I 15 8, I, L_8)) else some ((-16), I, L))))))

def fK4_isFull (I : FI) (L : FL) : Option (Int32) :=
(if (I 11 1) < 40 then some 0 else some 1)

def fK2_hasFunds (I : FI) (L : FL) : Option (Int32) :=
g8 (I 15 1) (fun o_2 => (if (I 15 2) = 1 then bn (fK0_freeGoods o_2 I L) (fun r_8 => (if (lg_cmp r_8 ((I 15 3).toInt64)) < 0 then some 0 else some 1)) else bn (fK0_freeCash o_2 I L) (fun r_5 => (if (lg_cmp r_5 (((I 15 3).toInt64) * ((I 15 4).toInt64))) < 0 then some 0 else some 1))))

def fK4_isInBook (a0 : Fin 40) (a1 : Int32) (I : FI) (L : FL) : Option (Int32) :=
(if (I 4 a0.val) = 0 then (if (I 1 a0.val) = a1 then some 1 else some 0) else some 0)

def fK4_isBetter (a0 : Int32) (a1 : Int32) (a2 : Int32) (I : FI) (L : FL) : Option (Int32) :=
(if a0 = 1 then (if a2 ≤ a1 then some 0 else some 1) else (if a1 ≤ a2 then some 0 else some 1))

def fK4_isMatch_24 (I : FI) (L : FL) : Option (Int32) :=
some 1
def fK4_isMatch (a0 : Fin 40) (a1 : Int32) (a2 : Int32) (I : FI) (L : FL) : Option (Int32) :=
bn (fK4_isInBook a0 a1 I L) (fun r_2 => (if r_2 = 0 then some 0 else (if a2 = 0 then fK4_isMatch_24 I L else bn (fK4_isBetter a1 a2 (I 3 a0.val) I L) (fun r_6 => (if r_6 = 0 then fK4_isMatch_24 I L else some 0)))))

def fK4_firstMatch_56 (k5 : Int32 → Int32 → Option (Fin 40) → Int32 → FI → FL → Option (Option (Fin 40))) (v1 : Int32) (v2 : Int32) (v3 : Option (Fin 40)) (v4 : Int32) (I : FI) (L : FL) : Option (Option (Fin 40)) :=
nm (v4 + 1) (fun x_1 => k5 v1 v2 v3 x_1 I L)
def fK4_firstMatch_53 (k5 : Int32 → Int32 → Option (Fin 40) → Int32 → FI → FL → Option (Option (Fin 40))) (v1 : Int32) (v2 : Int32) (v4 : Int32) (v5 : Fin 40) (I : FI) (L : FL) : Option (Option (Fin 40)) :=
fK4_firstMatch_56 k5 v1 v2 (some v5) v4 I L
def bK4_firstMatch_5 (k5 : Int32 → Int32 → Option (Fin 40) → Int32 → FI → FL → Option (Option (Fin 40))) (v1 : Int32) (v2 : Int32) (v3 : Option (Fin 40)) (v4 : Int32) (I : FI) (L : FL) : Option (Option (Fin 40)) :=
(if (I 11 1) ≤ v4 then some v3 else g40 v4 (fun o_3 => bn (fK4_isMatch o_3 v1 v2 I L) (fun r_5 => (if r_5 = 0 then fK4_firstMatch_56 k5 v1 v2 v3 v4 I L else (mo v3 (fK4_firstMatch_53 k5 v1 v2 v4 o_3 I L) (fun o_7 => bn (fK4_isBetter v1 (I 3 o_3.val) (I 3 o_7.val) I L) (fun r_9 => (if r_9 = 0 then fK4_firstMatch_56 k5 v1 v2 (some o_7) v4 I L else fK4_firstMatch_53 k5 v1 v2 v4 o_3 I L))))))))
def fK4_firstMatch_5 : Nat → Int32 → Int32 → Option (Fin 40) → Int32 → FI → FL → Option (Option (Fin 40))
  | 0 => fun _ _ _ _ _ _ => none
  | n + 1 => bK4_firstMatch_5 (fK4_firstMatch_5 n)
def fK4_firstMatch (a1 : Int32) (a2 : Int32) (I : FI) (L : FL) : Option (Option (Fin 40)) :=
fK4_firstMatch_5 FU a1 a2 none 0 I L

def fK4_matchesOfOthers_59 (k6 : Int32 → Int32 → Int32 → Int32 → Int32 → FI → FL → Option (Int32)) (v1 : Int32) (v2 : Int32) (v3 : Int32) (v4 : Int32) (v5 : Int32) (I : FI) (L : FL) : Option (Int32) :=
nm (v5 + 1) (fun x_1 => k6 v1 v2 v3 v4 x_1 I L)
def bK4_matchesOfOthers_6 (k6 : Int32 → Int32 → Int32 → Int32 → Int32 → FI → FL → Option (Int32)) (v1 : Int32) (v2 : Int32) (v3 : Int32) (v4 : Int32) (v5 : Int32) (I : FI) (L : FL) : Option (Int32) :=
(if (I 11 1) ≤ v5 then some v4 else g40 v5 (fun o_3 => (if (I 0 o_3.val) = v3 then fK4_matchesOfOthers_59 k6 v1 v2 v3 v4 v5 I L else g40 v5 (fun o_6 => bn (fK4_isMatch o_6 v1 v2 I L) (fun r_8 => (if r_8 = 0 then fK4_matchesOfOthers_59 k6 v1 v2 v3 v4 v5 I L else g40 v5 (fun o_11 => nm (v4 + (I 2 o_11.val)) (fun x_12 => fK4_matchesOfOthers_59 k6 v1 v2 v3 x_12 v5 I L))))))))
def fK4_matchesOfOthers_6 : Nat → Int32 → Int32 → Int32 → Int32 → Int32 → FI → FL → Option (Int32)
  | 0 => fun _ _ _ _ _ _ _ => none
  | n + 1 => bK4_matchesOfOthers_6 (fK4_matchesOfOthers_6 n)
def fK4_matchesOfOthers (a1 : Int32) (a2 : Int32) (a3 : Int32) (I : FI) (L : FL) : Option (Int32) :=
fK4_matchesOfOthers_6 FU a1 a2 a3 0 0 I L

def fK2_findsItsMatches_67 (I : FI) (L : FL) : Option (Int32) :=
some 1
def fK2_findsItsMatches (I : FI) (L : FL) : Option (Int32) :=
nm (1 - (I 15 2)) (fun x_1 => (if (I 15 5) = 3 then bn (fK4_firstMatch x_1 (I 15 4) I L) (fun r_8 => (mo r_8 (some 1) (fun o_9 => some 0))) else (if (I 15 5) = 2 then bn (fK4_matchesOfOthers x_1 (I 15 4) (I 15 1) I L) (fun r_5 => (if r_5 < (I 15 3) then some 0 else fK2_findsItsMatches_67 I L)) else fK2_findsItsMatches_67 I L)))

def fK4_enter (I : FI) (L : FL) : Option (Int32 × FI × FL) :=
nm (I 11 1) (fun x_1 => g40 x_1 (fun o_3 => nm (sI I 0 o_3.val (I 15 1)) (fun I_4 => nm (sI I_4 1 o_3.val (I_4 15 2)) (fun I_5 => nm (sI I_5 2 o_3.val (I_5 15 3)) (fun I_6 => nm (sI I_6 3 o_3.val (I_6 15 4)) (fun I_7 => nm (sI I_7 4 o_3.val 2) (fun I_8 => nm (sI I_8 5 o_3.val (-1)) (fun I_9 => nm (sI I_9 11 1 ((I_9 11 1) + 1)) (fun I_10 => some (x_1, I_10, L))))))))))

def fK2_hold (a1 : Fin 40) (a2 : Int32) (I : FI) (L : FL) : Option (FI × FL) :=
g8 (I 0 a1.val) (fun o_2 => (if (I 1 a1.val) = 1 then nm (sL L 3 o_2.val ((L 3 o_2.val) + a2.toInt64)) (fun L_5 => some (I, L_5)) else nm (sL L 2 o_2.val ((L 2 o_2.val) + (a2.toInt64 * ((I 3 a1.val).toInt64)))) (fun L_4 => some (I, L_4))))

def fK2_cancel_17 (v1 : Fin 40) (I : FI) (L : FL) : Option (FI × FL) :=
nm (sI I 4 v1.val 2) (fun I_1 => some (I_1, L))
def fK2_cancel (a1 : Fin 40) (I : FI) (L : FL) : Option (FI × FL) :=
(if (I 4 a1.val) = 0 then bv (fK2_hold a1 (-(I 2 a1.val)) I L) (fun I_3 L_4 => fK2_cancel_17 a1 I_3 L_4) else fK2_cancel_17 a1 I L)

def fK2_payable (a1 : Fin 40) (a2 : Int32) (a3 : Int32) (I : FI) (L : FL) : Option (Int32) :=
(if (I 1 a1.val) = 1 then some a3 else (if 0 < a2 then g8 (I 0 a1.val) (fun o_4 => bn (fK0_freeCash o_4 I L) (fun r_6 => ck (decide (¬ a2.toInt64 = 0)) (some ((if r_6 / a2.toInt64 < a3.toInt64 then r_6 / a2.toInt64 else a3.toInt64).toInt32)))) else some a3))

def fK6_add (a1 : Int32) (a2 : Int32) (a3 : Int32) (a4 : Int32) (I : FI) (L : FL) : Option (FI × FL) :=
nm ((I 11 2) - (I 11 2) / 200 * 200) (fun x_1 => ck (inb x_1 200) (nm (sI I 7 x_1.toNatClampNeg a1) (fun I_3 => ck (inb x_1 200) (nm (sI I_3 8 x_1.toNatClampNeg a2) (fun I_5 => ck (inb x_1 200) (nm (sI I_5 9 x_1.toNatClampNeg a3) (fun I_7 => ck (inb x_1 200) (nm (sI I_7 10 x_1.toNatClampNeg a4) (fun I_9 => nm (sI I_9 11 2 ((I_9 11 2) + 1)) (fun I_10 => some (I_10, L)))))))))))

def fK2_settle_157 (v2 : Fin 40) (v3 : Int32) (v4 : Int32) (v5 : Int32) (I : FI) (L : FL) : Option (FI × FL) :=
nm (sI I 11 4 (I 3 v2.val)) (fun I_1 => bv (fK6_add v4 v5 (I_1 3 v2.val) v3 I_1 L) (fun I_3 L_4 => some (I_3, L_4)))
def fK2_settle_38 (v1 : Fin 40) (v2 : Fin 40) (v3 : Int32) (v4 : Int32) (u0 : Int32) (I : FI) (L : FL) : Option (FI × FL) :=
nm (v3.toInt64 * ((I 3 v2.val).toInt64)) (fun x_1 => g8 v4 (fun o_3 => nm (sL L 0 o_3.val ((L 0 o_3.val) - x_1)) (fun L_4 => g8 v4 (fun o_6 => nm (sL L_4 1 o_6.val ((L_4 1 o_6.val) + v3.toInt64)) (fun L_7 => g8 u0 (fun o_9 => nm (sL L_7 0 o_9.val ((L_7 0 o_9.val) + x_1)) (fun L_10 => g8 u0 (fun o_12 => nm (sL L_10 1 o_12.val ((L_10 1 o_12.val) - v3.toInt64)) (fun L_13 => bv (fK2_hold v2 (-v3) I L_13) (fun I_15 L_16 => nm (sI I_15 2 v1.val ((I_15 2 v1.val) - v3)) (fun I_17 => nm (sI I_17 2 v2.val ((I_17 2 v2.val) - v3)) (fun I_18 => (if (I_18 2 v2.val) = 0 then nm (sI I_18 4 v2.val 2) (fun I_20 => fK2_settle_157 v2 v3 v4 u0 I_20 L_16) else fK2_settle_157 v2 v3 v4 u0 I_18 L_16)))))))))))))
def fK2_settle_18 (v1 : Fin 40) (v2 : Fin 40) (v3 : Int32) (u0 : Int32) (I : FI) (L : FL) : Option (FI × FL) :=
(if (I 1 v1.val) = 0 then fK2_settle_38 v1 v2 v3 u0 (I 0 v2.val) I L else fK2_settle_38 v1 v2 v3 u0 (I 0 v1.val) I L)
def fK2_settle (a1 : Fin 40) (a2 : Fin 40) (a3 : Int32) (I : FI) (L : FL) : Option (FI × FL) :=
(if (I 1 a1.val) = 0 then fK2_settle_18 a1 a2 a3 (I 0 a1.val) I L else fK2_settle_18 a1 a2 a3 (I 0 a2.val) I L)

def fK2_meet_105 (k6 : Fin 40 → Int32 → Int32 → Int32 → FI → FL → Option (FI × FL)) (v1 : Fin 40) (v2 : Int32) (v4 : Int32) (v5 : Int32) (I : FI) (L : FL) : Option (FI × FL) :=
nm (v5 + 1) (fun x_1 => k6 v1 v2 v4 x_1 I L)
def bK2_meet_6 (k6 : Fin 40 → Int32 → Int32 → Int32 → FI → FL → Option (FI × FL)) (v1 : Fin 40) (v2 : Int32) (v4 : Int32) (v5 : Int32) (I : FI) (L : FL) : Option (FI × FL) :=
(if 42 ≤ v5 then some (I, L) else (if v4 ≤ 0 then some (I, L) else bn (fK4_firstMatch (1 - (I 1 v1.val)) v2 I L) (fun r_4 => (mo r_4 (some (I, L)) (fun o_5 => (if (I 0 o_5.val) = (I 0 v1.val) then bv (fK2_cancel o_5 I L) (fun I_15 L_16 => fK2_meet_105 k6 v1 v2 v4 v5 I_15 L_16) else bn (fK2_payable v1 (I 3 o_5.val) (if I 2 o_5.val < v4 then I 2 o_5.val else v4) I L) (fun r_8 => (if r_8 = 0 then some (I, L) else bv (fK2_settle v1 o_5 r_8 I L) (fun I_11 L_12 => nm (v4 - r_8) (fun x_13 => fK2_meet_105 k6 v1 v2 x_13 v5 I_11 L_12))))))))))
def fK2_meet_6 : Nat → Fin 40 → Int32 → Int32 → Int32 → FI → FL → Option (FI × FL)
  | 0 => fun _ _ _ _ _ _ => none
  | n + 1 => bK2_meet_6 (fK2_meet_6 n)
def fK2_meet (a1 : Fin 40) (a2 : Int32) (a3 : Int32) (I : FI) (L : FL) : Option (FI × FL) :=
fK2_meet_6 FU a1 a2 a3 0 I L

def fK2_placeLimit_109 (v2 : Int32) (v3 : Fin 40) (u0 : Int32) (u1 : Fin 40) (I : FI) (L : FL) : Option (Int32 × FI × FL) :=
nm (sI I 5 u1.val u0) (fun I_1 => bv (fK2_hold v3 (I_1 2 v3.val) I_1 L) (fun I_3 L_4 => some (v2, I_3, L_4)))
def fK2_placeLimit (I : FI) (L : FL) : Option (Int32 × FI × FL) :=
bn (fK4_isFull I L) (fun r_2 => (if r_2 = 0 then bn (fK2_hasFunds I L) (fun r_5 => (if r_5 = 0 then some ((-16), I, L) else bn (fK2_findsItsMatches I L) (fun r_8 => (if r_8 = 0 then some ((-17), I, L) else bq (fK4_enter I L) (fun r_11 I_12 L_13 => g40 r_11 (fun o_15 => bv (fK2_meet o_15 (I_12 3 o_15.val) (I_12 2 o_15.val) I_12 L_13) (fun I_17 L_18 => (if (I_17 2 o_15.val) ≤ 0 then some (r_11, I_17, L_18) else (if (I_17 15 5) = 1 then some (r_11, I_17, L_18) else nm (sI I_17 4 o_15.val 0) (fun I_21 => (if (I_21 15 5) = 4 then fK2_placeLimit_109 r_11 o_15 ((I_21 11 5) + (I_21 15 6)) o_15 I_21 L_18 else fK2_placeLimit_109 r_11 o_15 (-1) o_15 I_21 L_18))))))))))) else some ((-15), I, L)))

def fK2_placeAny_32 (I : FI) (L : FL) : Option (Int32 × FI × FL) :=
bq (fK4_enter I L) (fun r_2 I_3 L_4 => g40 r_2 (fun o_6 => bv (fK2_meet o_6 0 (I_3 15 3) I_3 L_4) (fun I_8 L_9 => some (r_2, I_8, L_9))))
def fK2_placeAny (I : FI) (L : FL) : Option (Int32 × FI × FL) :=
bn (fK4_isFull I L) (fun r_2 => (if r_2 = 0 then (if (I 15 2) = 1 then bn (fK2_hasFunds I L) (fun r_6 => (if r_6 = 0 then some ((-16), I, L) else fK2_placeAny_32 I L)) else fK2_placeAny_32 I L) else some ((-15), I, L)))

def fK2_placeStop (I : FI) (L : FL) : Option (Int32 × FI × FL) :=
bn (fK4_isFull I L) (fun r_2 => (if r_2 = 0 then bq (fK4_enter I L) (fun r_5 I_6 L_7 => g40 r_5 (fun o_9 => nm (sI I_6 4 o_9.val 1) (fun I_10 => some (r_5, I_10, L_7)))) else some ((-15), I, L)))

def fK4_has (a1 : Int32) (I : FI) (L : FL) : Option (Int32) :=
(if a1 < 0 then some 0 else (if (I 11 1) ≤ a1 then some 0 else some 1))

def fK2_refusalOfTarget (I : FI) (L : FL) : Option (Int32) :=
bn (fK4_has (I 15 7) I L) (fun r_2 => (if r_2 = 0 then some (-12) else g40 (I 15 7) (fun o_5 => (if (I 0 o_5.val) = (I 15 1) then (if (I 4 o_5.val) = 2 then some (-14) else some 0) else some (-13)))))

def fK2_cancelAsked (I : FI) (L : FL) : Option (Int32 × FI × FL) :=
bn (fK2_refusalOfTarget I L) (fun r_2 => (if r_2 = 0 then g40 (I 15 7) (fun o_5 => bv (fK2_cancel o_5 I L) (fun I_7 L_8 => some (I_7 2 o_5.val, I_7, L_8))) else some (r_2, I, L)))

def fK2_lessen_56 (v3 : Fin 40) (I : FI) (L : FL) : Option (Int32 × FI × FL) :=
nm (sI I 2 v3.val ((I 2 v3.val) - (I 15 8))) (fun I_1 => some (I_1 2 v3.val, I_1, L))
def fK2_lessen (I : FI) (L : FL) : Option (Int32 × FI × FL) :=
bn (fK2_refusalOfTarget I L) (fun r_2 => (if r_2 = 0 then g40 (I 15 7) (fun o_5 => (if (I 15 8) < (I 2 o_5.val) then (if (I 4 o_5.val) = 0 then bv (fK2_hold o_5 (-(I 15 8)) I L) (fun I_9 L_10 => fK2_lessen_56 o_5 I_9 L_10) else fK2_lessen_56 o_5 I L) else some ((-11), I, L))) else some (r_2, I, L)))

def fK2_endOrdersOfNow_51 (k4 : Int32 → Int32 → FI → FL → Option (Int32 × FI × FL)) (v1 : Int32) (v2 : Int32) (I : FI) (L : FL) : Option (Int32 × FI × FL) :=
nm (v2 + 1) (fun x_1 => k4 v1 x_1 I L)
def bK2_endOrdersOfNow_4 (k4 : Int32 → Int32 → FI → FL → Option (Int32 × FI × FL)) (v1 : Int32) (v2 : Int32) (I : FI) (L : FL) : Option (Int32 × FI × FL) :=
(if (I 11 1) ≤ v2 then some (v1, I, L) else g40 v2 (fun o_3 => (if (I 4 o_3.val) = 0 then (if (I 5 o_3.val) = (I 11 5) then bv (fK2_cancel o_3 I L) (fun I_7 L_8 => nm (v1 + 1) (fun x_9 => fK2_endOrdersOfNow_51 k4 x_9 v2 I_7 L_8)) else fK2_endOrdersOfNow_51 k4 v1 v2 I L) else fK2_endOrdersOfNow_51 k4 v1 v2 I L)))
def fK2_endOrdersOfNow_4 : Nat → Int32 → Int32 → FI → FL → Option (Int32 × FI × FL)
  | 0 => fun _ _ _ _ => none
  | n + 1 => bK2_endOrdersOfNow_4 (fK2_endOrdersOfNow_4 n)
def fK2_endOrdersOfNow (I : FI) (L : FL) : Option (Int32 × FI × FL) :=
fK2_endOrdersOfNow_4 FU 0 0 I L

def bK2_passTime_4 (k4 : Int32 → Int32 → Int32 → FI → FL → Option (Int32 × FI × FL)) (v1 : Int32) (v2 : Int32) (v3 : Int32) (I : FI) (L : FL) : Option (Int32 × FI × FL) :=
(if v1 ≤ v3 then some (v2, I, L) else nm (sI I 11 5 ((I 11 5) + 1)) (fun I_2 => bq (fK2_endOrdersOfNow I_2 L) (fun r_4 I_5 L_6 => nm (v2 + r_4) (fun x_7 => nm (v3 + 1) (fun x_8 => k4 v1 x_7 x_8 I_5 L_6)))))
def fK2_passTime_4 : Nat → Int32 → Int32 → Int32 → FI → FL → Option (Int32 × FI × FL)
  | 0 => fun _ _ _ _ _ => none
  | n + 1 => bK2_passTime_4 (fK2_passTime_4 n)
def fK2_passTime (a1 : Int32) (I : FI) (L : FL) : Option (Int32 × FI × FL) :=
fK2_passTime_4 FU a1 0 0 I L

def fK2_perform (I : FI) (L : FL) : Option (Int32 × FI × FL) :=
(if (I 15 0) = 1 then bq (fK2_moveAmount I L) (fun r_3 I_4 L_5 => some (r_3, I_4, L_5)) else (if (I 15 0) = 2 then bq (fK2_moveAmount I L) (fun r_8 I_9 L_10 => some (r_8, I_9, L_10)) else (if (I 15 0) = 3 then bq (fK2_moveAmount I L) (fun r_13 I_14 L_15 => some (r_13, I_14, L_15)) else (if (I 15 0) = 4 then bq (fK2_placeLimit I L) (fun r_18 I_19 L_20 => some (r_18, I_19, L_20)) else (if (I 15 0) = 5 then bq (fK2_placeAny I L) (fun r_23 I_24 L_25 => some (r_23, I_24, L_25)) else (if (I 15 0) = 6 then bq (fK2_placeStop I L) (fun r_28 I_29 L_30 => some (r_28, I_29, L_30)) else (if (I 15 0) = 7 then bq (fK2_cancelAsked I L) (fun r_33 I_34 L_35 => some (r_33, I_34, L_35)) else (if (I 15 0) = 8 then bq (fK2_lessen I L) (fun r_38 I_39 L_40 => some (r_38, I_39, L_40)) else (if (I 15 0) = 9 then bq (fK2_passTime (I 15 6) I L) (fun r_43 I_44 L_45 => some (r_43, I_44, L_45)) else some ((-11), I, L))))))))))

def fK4_wakes_30 (I : FI) (L : FL) : Option (Int32) :=
some 1
def fK4_wakes (a0 : Fin 40) (a1 : Int32) (I : FI) (L : FL) : Option (Int32) :=
(if a1 = 0 then some 0 else (if (I 1 a0.val) = 0 then (if a1 < (I 3 a0.val) then some 0 else fK4_wakes_30 I L) else (if (I 3 a0.val) < a1 then some 0 else fK4_wakes_30 I L)))

def fK4_firstWakingStop_43 (k2 : Int32 → Int32 → FI → FL → Option (Option (Fin 40))) (v1 : Int32) (v2 : Int32) (I : FI) (L : FL) : Option (Option (Fin 40)) :=
nm (v2 + 1) (fun x_1 => k2 v1 x_1 I L)
def bK4_firstWakingStop_2 (k2 : Int32 → Int32 → FI → FL → Option (Option (Fin 40))) (v1 : Int32) (v2 : Int32) (I : FI) (L : FL) : Option (Option (Fin 40)) :=
(if (I 11 1) ≤ v2 then some none else g40 v2 (fun o_3 => (if (I 4 o_3.val) = 1 then g40 v2 (fun o_6 => bn (fK4_wakes o_6 v1 I L) (fun r_8 => (if r_8 = 0 then fK4_firstWakingStop_43 k2 v1 v2 I L else g40 v2 (fun o_11 => some (some o_11))))) else fK4_firstWakingStop_43 k2 v1 v2 I L)))
def fK4_firstWakingStop_2 : Nat → Int32 → Int32 → FI → FL → Option (Option (Fin 40))
  | 0 => fun _ _ _ _ => none
  | n + 1 => bK4_firstWakingStop_2 (fK4_firstWakingStop_2 n)
def fK4_firstWakingStop (a1 : Int32) (I : FI) (L : FL) : Option (Option (Fin 40)) :=
fK4_firstWakingStop_2 FU a1 0 I L

def fK2_wakeStops_58 (k2 : Int32 → FI → FL → Option (FI × FL)) (v1 : Int32) (v2 : Fin 40) (u0 : Int64) (I : FI) (L : FL) : Option (FI × FL) :=
bv (fK2_meet v2 0 ((if (I 2 v2.val).toInt64 < u0 then (I 2 v2.val).toInt64 else u0).toInt32) I L) (fun I_2 L_3 => nm (v1 + 1) (fun x_4 => k2 x_4 I_2 L_3))
def bK2_wakeStops_2 (k2 : Int32 → FI → FL → Option (FI × FL)) (v1 : Int32) (I : FI) (L : FL) : Option (FI × FL) :=
(if 40 ≤ v1 then some (I, L) else bn (fK4_firstWakingStop (I 11 4) I L) (fun r_3 => (mo r_3 (some (I, L)) (fun o_4 => nm (sI I 4 o_4.val 2) (fun I_5 => (if (I_5 1 o_4.val) = 1 then g8 (I_5 0 o_4.val) (fun o_8 => bn (fK0_freeGoods o_8 I_5 L) (fun r_10 => fK2_wakeStops_58 k2 v1 o_4 r_10 I_5 L)) else fK2_wakeStops_58 k2 v1 o_4 ((I_5 2 o_4.val).toInt64) I_5 L))))))
def fK2_wakeStops_2 : Nat → Int32 → FI → FL → Option (FI × FL)
  | 0 => fun _ _ _ => none
  | n + 1 => bK2_wakeStops_2 (fK2_wakeStops_2 n)
def fK2_wakeStops (I : FI) (L : FL) : Option (FI × FL) :=
fK2_wakeStops_2 FU 0 I L

def fK4_waitingOf_41 (k4 : Int32 → Int32 → Int32 → FI → FL → Option (Int32)) (v1 : Int32) (v2 : Int32) (v3 : Int32) (I : FI) (L : FL) : Option (Int32) :=
nm (v3 + 1) (fun x_1 => k4 v1 v2 x_1 I L)
def bK4_waitingOf_4 (k4 : Int32 → Int32 → Int32 → FI → FL → Option (Int32)) (v1 : Int32) (v2 : Int32) (v3 : Int32) (I : FI) (L : FL) : Option (Int32) :=
(if (I 11 1) ≤ v3 then some v2 else g40 v3 (fun o_3 => (if (I 0 o_3.val) = v1 then g40 v3 (fun o_6 => (if (I 4 o_6.val) = 2 then fK4_waitingOf_41 k4 v1 v2 v3 I L else nm (v2 + 1) (fun x_8 => fK4_waitingOf_41 k4 v1 x_8 v3 I L))) else fK4_waitingOf_41 k4 v1 v2 v3 I L)))
def fK4_waitingOf_4 : Nat → Int32 → Int32 → Int32 → FI → FL → Option (Int32)
  | 0 => fun _ _ _ _ _ => none
  | n + 1 => bK4_waitingOf_4 (fK4_waitingOf_4 n)
def fK4_waitingOf (a1 : Int32) (I : FI) (L : FL) : Option (Int32) :=
fK4_waitingOf_4 FU a1 0 0 I L

def fK4_sleepingStops_28 (k4 : Int32 → Int32 → FI → FL → Option (Int32)) (v1 : Int32) (v2 : Int32) (I : FI) (L : FL) : Option (Int32) :=
nm (v2 + 1) (fun x_1 => k4 v1 x_1 I L)
def bK4_sleepingStops_4 (k4 : Int32 → Int32 → FI → FL → Option (Int32)) (v1 : Int32) (v2 : Int32) (I : FI) (L : FL) : Option (Int32) :=
(if (I 11 1) ≤ v2 then some v1 else g40 v2 (fun o_3 => (if (I 4 o_3.val) = 1 then nm (v1 + 1) (fun x_5 => fK4_sleepingStops_28 k4 x_5 v2 I L) else fK4_sleepingStops_28 k4 v1 v2 I L)))
def fK4_sleepingStops_4 : Nat → Int32 → Int32 → FI → FL → Option (Int32)
  | 0 => fun _ _ _ _ => none
  | n + 1 => bK4_sleepingStops_4 (fK4_sleepingStops_4 n)
def fK4_sleepingStops (I : FI) (L : FL) : Option (Int32) :=
fK4_sleepingStops_4 FU 0 0 I L

def fK4_nextPrice_85 (k5 : Int32 → Int32 → Int32 → Int32 → FI → FL → Option (Int32)) (v1 : Int32) (v2 : Int32) (v3 : Int32) (v4 : Int32) (I : FI) (L : FL) : Option (Int32) :=
nm (v4 + 1) (fun x_1 => k5 v1 v2 v3 x_1 I L)
def fK4_nextPrice_82 (k5 : Int32 → Int32 → Int32 → Int32 → FI → FL → Option (Int32)) (v1 : Int32) (v2 : Int32) (v4 : Int32) (v5 : Int32) (I : FI) (L : FL) : Option (Int32) :=
fK4_nextPrice_85 k5 v1 v2 v5 v4 I L
def fK4_nextPrice_46 (k5 : Int32 → Int32 → Int32 → Int32 → FI → FL → Option (Int32)) (v1 : Int32) (v2 : Int32) (v3 : Int32) (v4 : Int32) (v5 : Int32) (u0 : Int32) (I : FI) (L : FL) : Option (Int32) :=
g40 v4 (fun o_2 => bn (fK4_isInBook o_2 v1 I L) (fun r_4 => (if r_4 = 0 then fK4_nextPrice_85 k5 v1 v2 v3 v4 I L else (if u0 = 0 then fK4_nextPrice_85 k5 v1 v2 v3 v4 I L else (if v3 = (-1) then fK4_nextPrice_82 k5 v1 v2 v4 v5 I L else bn (fK4_isBetter v1 v5 v3 I L) (fun r_9 => (if r_9 = 0 then fK4_nextPrice_85 k5 v1 v2 v3 v4 I L else fK4_nextPrice_82 k5 v1 v2 v4 v5 I L)))))))
def fK4_nextPrice_41 (k5 : Int32 → Int32 → Int32 → Int32 → FI → FL → Option (Int32)) (v1 : Int32) (v2 : Int32) (v3 : Int32) (v4 : Int32) (v5 : Int32) (I : FI) (L : FL) : Option (Int32) :=
fK4_nextPrice_46 k5 v1 v2 v3 v4 v5 1 I L
def bK4_nextPrice_5 (k5 : Int32 → Int32 → Int32 → Int32 → FI → FL → Option (Int32)) (v1 : Int32) (v2 : Int32) (v3 : Int32) (v4 : Int32) (I : FI) (L : FL) : Option (Int32) :=
(if (I 11 1) ≤ v4 then some v3 else g40 v4 (fun o_3 => nm (I 3 o_3.val) (fun x_4 => (if v2 = (-1) then fK4_nextPrice_41 k5 v1 v2 v3 v4 x_4 I L else bn (fK4_isBetter v1 v2 x_4 I L) (fun r_7 => (if r_7 = 0 then fK4_nextPrice_46 k5 v1 v2 v3 v4 x_4 0 I L else fK4_nextPrice_41 k5 v1 v2 v3 v4 x_4 I L))))))
def fK4_nextPrice_5 : Nat → Int32 → Int32 → Int32 → Int32 → FI → FL → Option (Int32)
  | 0 => fun _ _ _ _ _ _ => none
  | n + 1 => bK4_nextPrice_5 (fK4_nextPrice_5 n)
def fK4_nextPrice (a1 : Int32) (a2 : Int32) (I : FI) (L : FL) : Option (Int32) :=
fK4_nextPrice_5 FU a1 a2 (-1) 0 I L

def bK4_priceAt_22 (k22 : Int32 → Int32 → Int32 → Int32 → FI → FL → Option (Int32)) (v1 : Int32) (v2 : Int32) (v3 : Int32) (v4 : Int32) (I : FI) (L : FL) : Option (Int32) :=
(if v2 ≤ v4 then some v3 else (if v3 = (-1) then some v3 else bn (fK4_nextPrice v1 v3 I L) (fun r_4 => nm (v4 + 1) (fun x_5 => k22 v1 v2 r_4 x_5 I L))))
def fK4_priceAt_22 : Nat → Int32 → Int32 → Int32 → Int32 → FI → FL → Option (Int32)
  | 0 => fun _ _ _ _ _ _ => none
  | n + 1 => bK4_priceAt_22 (fK4_priceAt_22 n)
def fK4_priceAt (a1 : Int32) (a2 : Int32) (I : FI) (L : FL) : Option (Int32) :=
(if a2 < 0 then some (-1) else (if a2 < 40 then bn (fK4_nextPrice a1 (-1) I L) (fun r_4 => fK4_priceAt_22 FU a1 a2 r_4 0 I L) else some (-1)))

def fK4_leftAt_55 (k5 : Int32 → Int32 → Int32 → Int32 → FI → FL → Option (Int32)) (v1 : Int32) (v2 : Int32) (v3 : Int32) (v4 : Int32) (I : FI) (L : FL) : Option (Int32) :=
nm (v4 + 1) (fun x_1 => k5 v1 v2 v3 x_1 I L)
def bK4_leftAt_5 (k5 : Int32 → Int32 → Int32 → Int32 → FI → FL → Option (Int32)) (v1 : Int32) (v2 : Int32) (v3 : Int32) (v4 : Int32) (I : FI) (L : FL) : Option (Int32) :=
(if (I 11 1) ≤ v4 then some v3 else g40 v4 (fun o_3 => bn (fK4_isInBook o_3 v1 I L) (fun r_5 => (if r_5 = 0 then fK4_leftAt_55 k5 v1 v2 v3 v4 I L else g40 v4 (fun o_8 => (if (I 3 o_8.val) = v2 then g40 v4 (fun o_11 => nm (v3 + (I 2 o_11.val)) (fun x_12 => fK4_leftAt_55 k5 v1 v2 x_12 v4 I L)) else fK4_leftAt_55 k5 v1 v2 v3 v4 I L))))))
def fK4_leftAt_5 : Nat → Int32 → Int32 → Int32 → Int32 → FI → FL → Option (Int32)
  | 0 => fun _ _ _ _ _ _ => none
  | n + 1 => bK4_leftAt_5 (fK4_leftAt_5 n)
def fK4_leftAt (a1 : Int32) (a2 : Int32) (I : FI) (L : FL) : Option (Int32) :=
fK4_leftAt_5 FU a1 a2 0 0 I L

def fK4_ordersAt_45 (k5 : Int32 → Int32 → Int32 → Int32 → FI → FL → Option (Int32)) (v1 : Int32) (v2 : Int32) (v3 : Int32) (v4 : Int32) (I : FI) (L : FL) : Option (Int32) :=
nm (v4 + 1) (fun x_1 => k5 v1 v2 v3 x_1 I L)
def bK4_ordersAt_5 (k5 : Int32 → Int32 → Int32 → Int32 → FI → FL → Option (Int32)) (v1 : Int32) (v2 : Int32) (v3 : Int32) (v4 : Int32) (I : FI) (L : FL) : Option (Int32) :=
(if (I 11 1) ≤ v4 then some v3 else g40 v4 (fun o_3 => bn (fK4_isInBook o_3 v1 I L) (fun r_5 => (if r_5 = 0 then fK4_ordersAt_45 k5 v1 v2 v3 v4 I L else g40 v4 (fun o_8 => (if (I 3 o_8.val) = v2 then nm (v3 + 1) (fun x_10 => fK4_ordersAt_45 k5 v1 v2 x_10 v4 I L) else fK4_ordersAt_45 k5 v1 v2 v3 v4 I L))))))
def fK4_ordersAt_5 : Nat → Int32 → Int32 → Int32 → Int32 → FI → FL → Option (Int32)
  | 0 => fun _ _ _ _ _ _ => none
  | n + 1 => bK4_ordersAt_5 (fK4_ordersAt_5 n)
def fK4_ordersAt (a1 : Int32) (a2 : Int32) (I : FI) (L : FL) : Option (Int32) :=
fK4_ordersAt_5 FU a1 a2 0 0 I L

def fK5_signsOf_22 (k5 : Int32 → Int32 → Int32 → FI → FL → Option (Int32)) (v0 : Int32) (v1 : Int32) (v2 : Int32) (I : FI) (L : FL) : Option (Int32) :=
nm (v2 + (-8)) (fun x_1 => k5 v0 v1 x_1 I L)
def bK5_signsOf_5 (k5 : Int32 → Int32 → Int32 → FI → FL → Option (Int32)) (v0 : Int32) (v1 : Int32) (v2 : Int32) (I : FI) (L : FL) : Option (Int32) :=
(if v2 < 0 then some v1 else (if (((v0.toUInt32 >>> (v2.toUInt32 &&& Int32.toUInt32 31)).toInt32) &&& 255) = 0 then fK5_signsOf_22 k5 v0 v1 v2 I L else nm (v1 + 1) (fun x_3 => fK5_signsOf_22 k5 v0 x_3 v2 I L)))
def fK5_signsOf_5 : Nat → Int32 → Int32 → Int32 → FI → FL → Option (Int32)
  | 0 => fun _ _ _ _ _ => none
  | n + 1 => bK5_signsOf_5 (fK5_signsOf_5 n)
def fK5_signsOf (a0 : Int32) (I : FI) (L : FL) : Option (Int32) :=
fK5_signsOf_5 FU a0 0 24 I L

def fK5_add_65 (k20 : Int32 → Int32 → FI → FL → Option (Int32 × FI × FL)) (v1 : Int32) (v2 : Int32) (I : FI) (L : FL) : Option (Int32 × FI × FL) :=
nm (v2 + (-8)) (fun x_1 => k20 v1 x_1 I L)
def bK5_add_20 (k20 : Int32 → Int32 → FI → FL → Option (Int32 × FI × FL)) (v1 : Int32) (v2 : Int32) (I : FI) (L : FL) : Option (Int32 × FI × FL) :=
(if v2 < 0 then some (I 11 0, I, L) else nm (((v1.toUInt32 >>> (v2.toUInt32 &&& Int32.toUInt32 31)).toInt32) &&& 255) (fun x_2 => (if x_2 = 0 then fK5_add_65 k20 v1 v2 I L else (if 40 ≤ (I 11 0) then fK5_add_65 k20 v1 v2 I L else ck (inb (I 11 0) 40) (nm (sI I 6 (I 11 0).toNatClampNeg x_2) (fun I_6 => nm (sI I_6 11 0 ((I_6 11 0) + 1)) (fun I_7 => fK5_add_65 k20 v1 v2 I_7 L)))))))
def fK5_add_20 : Nat → Int32 → Int32 → FI → FL → Option (Int32 × FI × FL)
  | 0 => fun _ _ _ _ => none
  | n + 1 => bK5_add_20 (fK5_add_20 n)
def fK5_add (a1 : Int32) (I : FI) (L : FL) : Option (Int32 × FI × FL) :=
bn (fK5_signsOf a1 I L) (fun r_2 => (if ((I 11 0) + r_2) ≤ 40 then fK5_add_20 FU a1 24 I L else some ((-3), I, L)))

def fK5_clear (I : FI) (L : FL) : Option (FI × FL) :=
nm (sI I 11 0 0) (fun I_1 => some (I_1, L))

def fK6_look (a1 : Int32) (a2 : Int32) (I : FI) (L : FL) : Option (Int32) :=
(if a1 < 0 then some (-1) else (if (I 11 2) ≤ a1 then some (-1) else (if ((I 11 2) - 200) ≤ a1 then nm (a1 - a1 / 200 * 200) (fun x_4 => (if a2 = 0 then ck (inb x_4 200) (some (I 7 x_4.toNatClampNeg)) else (if a2 = 1 then ck (inb x_4 200) (some (I 8 x_4.toNatClampNeg)) else (if a2 = 2 then ck (inb x_4 200) (some (I 9 x_4.toNatClampNeg)) else (if a2 = 3 then ck (inb x_4 200) (some (I 10 x_4.toNatClampNeg)) else some (-1)))))) else some (-1))))

def fK7_feed (a1 : Int32) (I : FI) (L : FL) : Option (Int32 × FI × FL) :=
bq (fK5_add a1 I L) (fun r_2 I_3 L_4 => some (r_2, I_3, L_4))

def fK7_line (I : FI) (L : FL) : Option (Int32 × FI × FL) :=
bv (fK1_read I L) (fun I_2 L_3 => bv (fK5_clear I_2 L_3) (fun I_5 L_6 => bq (fK2_perform I_5 L_6) (fun r_8 I_9 L_10 => (if 0 ≤ r_8 then bv (fK2_wakeStops I_9 L_10) (fun I_13 L_14 => some (r_8, I_13, L_14)) else nm (sI I_9 11 3 ((I_9 11 3) + 1)) (fun I_15 => some (r_8, I_15, L_10))))))

def fK7_order (a1 : Int32) (a2 : Int32) (I : FI) (L : FL) : Option (Int32) :=
bn (fK4_has a1 I L) (fun r_2 => (if r_2 = 0 then some (-1) else g40 a1 (fun o_5 => (if a2 = 0 then some (I 0 o_5.val) else (if a2 = 1 then some (I 1 o_5.val) else (if a2 = 2 then some (I 2 o_5.val) else (if a2 = 3 then some (I 3 o_5.val) else (if a2 = 4 then some (I 4 o_5.val) else (if a2 = 5 then some (I 5 o_5.val) else some (-1))))))))))

def fK7_trader (a1 : Int32) (a2 : Int32) (I : FI) (L : FL) : Option (Int64) :=
(if a1 < 0 then some (-1) else (if a1 < 8 then g8 a1 (fun o_4 => (if a2 = 0 then some (L 0 o_4.val) else (if a2 = 1 then some (L 1 o_4.val) else (if a2 = 2 then some (L 2 o_4.val) else (if a2 = 3 then some (L 3 o_4.val) else (if a2 = 4 then bn (fK4_waitingOf a1 I L) (fun r_11 => some r_11.toInt64) else some (-1))))))) else some (-1)))

def fK7_level_11 (v1 : Int32) (v2 : Int32) (v3 : Int32) (I : FI) (L : FL) : Option (Int32) :=
bn (fK4_priceAt v1 v2 I L) (fun r_2 => (if r_2 = (-1) then some (-1) else (if v3 = 0 then some r_2 else (if v3 = 1 then bn (fK4_leftAt v1 r_2 I L) (fun r_7 => some r_7) else (if v3 = 2 then bn (fK4_ordersAt v1 r_2 I L) (fun r_10 => some r_10) else some (-1))))))
def fK7_level (a1 : Int32) (a2 : Int32) (a3 : Int32) (I : FI) (L : FL) : Option (Int32) :=
(if a1 = 0 then fK7_level_11 a1 a2 a3 I L else (if a1 = 1 then fK7_level_11 a1 a2 a3 I L else some (-1)))

def fK7_trade (a1 : Int32) (a2 : Int32) (I : FI) (L : FL) : Option (Int32) :=
bn (fK6_look a1 a2 I L) (fun r_2 => some r_2)

def fK7_count (a1 : Int32) (I : FI) (L : FL) : Option (Int32) :=
(if a1 = 0 then some (I 11 1) else (if a1 = 1 then some (I 11 2) else (if a1 = 2 then some (I 11 3) else (if a1 = 3 then some (I 11 4) else (if a1 = 4 then some (I 11 5) else (if a1 = 5 then some (I 11 0) else (if a1 = 6 then bn (fK4_sleepingStops I L) (fun r_9 => some r_9) else some (-1))))))))

def fK8_feed_82 (k45 : Int32 → Int32 → FI → FL → Option (Int32 × FI × FL)) (v1 : Int32) (v3 : Int32) (I : FI) (L : FL) : Option (Int32 × FI × FL) :=
nm (v3 + (-8)) (fun x_1 => k45 v1 x_1 I L)
def bK8_feed_45 (k45 : Int32 → Int32 → FI → FL → Option (Int32 × FI × FL)) (v1 : Int32) (v3 : Int32) (I : FI) (L : FL) : Option (Int32 × FI × FL) :=
(if v3 < 0 then some (I 11 0, I, L) else (if (((v1.toUInt32 >>> (v3.toUInt32 &&& Int32.toUInt32 31)).toInt32) &&& 255) = 0 then fK8_feed_82 k45 v1 v3 I L else nm (sI I 11 0 ((I 11 0) + 1)) (fun I_3 => ck (inb (I 11 0) 40) (nm (sI I_3 6 (I 11 0).toNatClampNeg (((v1.toUInt32 >>> (v3.toUInt32 &&& Int32.toUInt32 31)).toInt32) &&& 255)) (fun I_5 => fK8_feed_82 k45 v1 v3 I_5 L)))))
def fK8_feed_45 : Nat → Int32 → Int32 → FI → FL → Option (Int32 × FI × FL)
  | 0 => fun _ _ _ _ => none
  | n + 1 => bK8_feed_45 (fK8_feed_45 n)
def fK8_feed_22 (k5 : Int32 → Int32 → Int32 → FI → FL → Option (Int32 × FI × FL)) (v1 : Int32) (v2 : Int32) (v3 : Int32) (I : FI) (L : FL) : Option (Int32 × FI × FL) :=
nm (v3 + (-8)) (fun x_1 => k5 v1 v2 x_1 I L)
def bK8_feed_5 (k5 : Int32 → Int32 → Int32 → FI → FL → Option (Int32 × FI × FL)) (v1 : Int32) (v2 : Int32) (v3 : Int32) (I : FI) (L : FL) : Option (Int32 × FI × FL) :=
(if v3 < 0 then (if ((I 11 0) + v2) ≤ 40 then fK8_feed_45 FU v1 24 I L else some ((-3), I, L)) else (if (((v1.toUInt32 >>> (v3.toUInt32 &&& Int32.toUInt32 31)).toInt32) &&& 255) = 0 then fK8_feed_22 k5 v1 v2 v3 I L else nm (v2 + 1) (fun x_4 => fK8_feed_22 k5 v1 x_4 v3 I L)))
def fK8_feed_5 : Nat → Int32 → Int32 → Int32 → FI → FL → Option (Int32 × FI × FL)
  | 0 => fun _ _ _ _ _ => none
  | n + 1 => bK8_feed_5 (fK8_feed_5 n)
def fK8_feed (a1 : Int32) (I : FI) (L : FL) : Option (Int32 × FI × FL) :=
fK8_feed_5 FU a1 0 24 I L

def fK8_taken_34 (k7 : Int32 → FI → FL → Option (Int32 × FI × FL)) (k9 : Int32 → Int32 → FI → FL → Option (Int32 × FI × FL)) (v1 : Int32) (v2 : Int32) (I : FI) (L : FL) : Option (Int32 × FI × FL) :=
(if v2 = v1 then some (0, I, L) else (if (I 12 0) = 12 then some (0, I, L) else ck (inb (I 12 0) 12) (nm (sI I 13 (I 12 0).toNatClampNeg v1) (fun I_4 => nm (sI I_4 12 0 ((I_4 12 0) + 1)) (fun I_5 => ck (inb (I_4 12 0) 12) (nm (sI I_5 14 (I_4 12 0).toNatClampNeg v2) (fun I_7 => (if v2 = (I_7 11 0) then some (1, I_7, L) else nm (v2 + 1) (fun x_9 => k7 x_9 I_7 L)))))))))
def bK8_taken_9 (k7 : Int32 → FI → FL → Option (Int32 × FI × FL)) (k9 : Int32 → Int32 → FI → FL → Option (Int32 × FI × FL)) (v1 : Int32) (v2 : Int32) (I : FI) (L : FL) : Option (Int32 × FI × FL) :=
(if (I 11 0) ≤ v2 then fK8_taken_34 k7 k9 v1 v2 I L else ck (inb v2 40) ((if (I 6 v2.toNatClampNeg) = 32 then fK8_taken_34 k7 k9 v1 v2 I L else nm (v2 + 1) (fun x_4 => k9 v1 x_4 I L))))
def fK8_taken_9 (k7 : Int32 → FI → FL → Option (Int32 × FI × FL)) : Nat → Int32 → Int32 → FI → FL → Option (Int32 × FI × FL)
  | 0 => fun _ _ _ _ => none
  | n + 1 => bK8_taken_9 k7 (fK8_taken_9 k7 n)
def bK8_taken_7 (k7 : Int32 → FI → FL → Option (Int32 × FI × FL)) (v1 : Int32) (I : FI) (L : FL) : Option (Int32 × FI × FL) :=
fK8_taken_9 k7 FU v1 v1 I L
def fK8_taken_7 : Nat → Int32 → FI → FL → Option (Int32 × FI × FL)
  | 0 => fun _ _ _ => none
  | n + 1 => bK8_taken_7 (fK8_taken_7 n)
def fK8_taken (I : FI) (L : FL) : Option (Int32 × FI × FL) :=
nm (sI I 12 0 0) (fun I_1 => fK8_taken_7 FU 0 I_1 L)

def bK8_is_32 (k32 : Int32 → Nat → Int32 → FI → FL → Option (Int32)) (v1 : Int32) (v2 : Nat) (v3 : Int32) (I : FI) (L : FL) : Option (Int32) :=
ck (decide (v2 < nJS)) ((if (nI (lenJS.getD v2 0)) ≤ v3 then some 1 else ck (inb v1 12) (ck (inb ((I 13 v1.toNatClampNeg) + v3) 40) (ck (decide (v2 < nJS)) (ck (inb v3 (lenJS.getD v2 0)) ((if (I 6 ((I 13 v1.toNatClampNeg) + v3).toNatClampNeg) = (chJS v2 v3) then nm (v3 + 1) (fun x_8 => k32 v1 v2 x_8 I L) else some 0)))))))
def fK8_is_32 : Nat → Int32 → Nat → Int32 → FI → FL → Option (Int32)
  | 0 => fun _ _ _ _ _ => none
  | n + 1 => bK8_is_32 (fK8_is_32 n)
def fK8_is (a1 : Int32) (a2 : Nat) (I : FI) (L : FL) : Option (Int32) :=
(if (I 12 0) ≤ a1 then some 0 else ck (inb a1 12) (ck (inb a1 12) (ck (decide (a2 < nJS)) ((if ((I 14 a1.toNatClampNeg) - (I 13 a1.toNatClampNeg)) = (nI (lenJS.getD a2 0)) then fK8_is_32 FU a1 a2 0 I L else some 0)))))

def fK8_number_112 (I : FI) (L : FL) : Option (Int32) :=
some (-1)
def bK8_number_39 (k39 : Int32 → Int32 → Int32 → Int32 → Int32 → FI → FL → Option (Int32)) (v1 : Int32) (v2 : Int32) (v3 : Int32) (v4 : Int32) (v5 : Int32) (I : FI) (L : FL) : Option (Int32) :=
ck (inb v1 12) ((if (I 14 v1.toNatClampNeg) ≤ v5 then (if v4 < v2 then fK8_number_112 I L else (if v4 ≤ v3 then some v4 else fK8_number_112 I L)) else ck (inb v5 40) ((if (I 6 v5.toNatClampNeg) < 48 then some (-1) else ck (inb v5 40) ((if (I 6 v5.toNatClampNeg) ≤ 57 then ck (inb v5 40) (nm (((10 * v4) + (I 6 v5.toNatClampNeg)) - 48) (fun x_10 => nm (v5 + 1) (fun x_11 => k39 v1 v2 v3 x_10 x_11 I L))) else some (-1)))))))
def fK8_number_39 : Nat → Int32 → Int32 → Int32 → Int32 → Int32 → FI → FL → Option (Int32)
  | 0 => fun _ _ _ _ _ _ _ => none
  | n + 1 => bK8_number_39 (fK8_number_39 n)
def fK8_number (a1 : Int32) (a2 : Int32) (a3 : Int32) (I : FI) (L : FL) : Option (Int32) :=
(if (I 12 0) ≤ a1 then some (-1) else ck (inb a1 12) (ck (inb a1 12) ((if ((I 14 a1.toNatClampNeg) - (I 13 a1.toNatClampNeg)) ≤ 7 then ck (inb a1 12) (nm (I 13 a1.toNatClampNeg) (fun x_6 => fK8_number_39 FU a1 a2 a3 0 x_6 I L)) else some (-1)))))

def fK8_any (a1 : Int32) (I : FI) (L : FL) : Option (Int32) :=
bn (fK8_number a1 0 9999999 I L) (fun r_2 => some r_2)

def fK8_whose (a1 : Int32) (I : FI) (L : FL) : Option (Int32) :=
bn (fK8_number a1 0 7 I L) (fun r_2 => some r_2)

def fK8_heldCash_65 (k5 : Int32 → Int64 → Int32 → FI → FL → Option (Int64)) (v1 : Int32) (v2 : Int64) (v4 : Int32) (I : FI) (L : FL) : Option (Int64) :=
nm (v4 + 1) (fun x_1 => k5 v1 v2 x_1 I L)
def bK8_heldCash_5 (k5 : Int32 → Int64 → Int32 → FI → FL → Option (Int64)) (v1 : Int32) (v2 : Int64) (v4 : Int32) (I : FI) (L : FL) : Option (Int64) :=
(if (I 11 1) ≤ v4 then some v2 else ck (inb v4 40) ((if (I 4 v4.toNatClampNeg) = 0 then ck (inb v4 40) ((if (I 0 v4.toNatClampNeg) = v1 then ck (inb v4 40) ((if (I 1 v4.toNatClampNeg) = 0 then ck (inb v4 40) (ck (inb v4 40) (nm (v2 + (((I 2 v4.toNatClampNeg).toInt64) * ((I 3 v4.toNatClampNeg).toInt64))) (fun x_10 => fK8_heldCash_65 k5 v1 x_10 v4 I L))) else fK8_heldCash_65 k5 v1 v2 v4 I L)) else fK8_heldCash_65 k5 v1 v2 v4 I L)) else fK8_heldCash_65 k5 v1 v2 v4 I L)))
def fK8_heldCash_5 : Nat → Int32 → Int64 → Int32 → FI → FL → Option (Int64)
  | 0 => fun _ _ _ _ _ => none
  | n + 1 => bK8_heldCash_5 (fK8_heldCash_5 n)
def fK8_heldCash (a1 : Int32) (I : FI) (L : FL) : Option (Int64) :=
fK8_heldCash_5 FU a1 0 0 I L

def fK8_freeCash (a1 : Int32) (I : FI) (L : FL) : Option (Int64) :=
ck (inb a1 8) (bn (fK8_heldCash a1 I L) (fun r_3 => some ((L 0 a1.toNatClampNeg) - r_3)))

def fK8_heldGoods_57 (k5 : Int32 → Int64 → Int32 → FI → FL → Option (Int64)) (v1 : Int32) (v2 : Int64) (v4 : Int32) (I : FI) (L : FL) : Option (Int64) :=
nm (v4 + 1) (fun x_1 => k5 v1 v2 x_1 I L)
def bK8_heldGoods_5 (k5 : Int32 → Int64 → Int32 → FI → FL → Option (Int64)) (v1 : Int32) (v2 : Int64) (v4 : Int32) (I : FI) (L : FL) : Option (Int64) :=
(if (I 11 1) ≤ v4 then some v2 else ck (inb v4 40) ((if (I 4 v4.toNatClampNeg) = 0 then ck (inb v4 40) ((if (I 0 v4.toNatClampNeg) = v1 then ck (inb v4 40) ((if (I 1 v4.toNatClampNeg) = 1 then ck (inb v4 40) (nm (v2 + ((I 2 v4.toNatClampNeg).toInt64)) (fun x_9 => fK8_heldGoods_57 k5 v1 x_9 v4 I L)) else fK8_heldGoods_57 k5 v1 v2 v4 I L)) else fK8_heldGoods_57 k5 v1 v2 v4 I L)) else fK8_heldGoods_57 k5 v1 v2 v4 I L)))
def fK8_heldGoods_5 : Nat → Int32 → Int64 → Int32 → FI → FL → Option (Int64)
  | 0 => fun _ _ _ _ _ => none
  | n + 1 => bK8_heldGoods_5 (fK8_heldGoods_5 n)
def fK8_heldGoods (a1 : Int32) (I : FI) (L : FL) : Option (Int64) :=
fK8_heldGoods_5 FU a1 0 0 I L

def fK8_freeGoods (a1 : Int32) (I : FI) (L : FL) : Option (Int64) :=
ck (inb a1 8) (bn (fK8_heldGoods a1 I L) (fun r_3 => some ((L 1 a1.toNatClampNeg) - r_3)))

def fK8_fresh (a1 : Int32) (a2 : Int32) (a3 : Int32) (a4 : Int32) (a5 : Int32) (I : FI) (L : FL) : Option (Int32 × FI × FL) :=
ck (inb (I 11 1) 40) (nm (sI I 0 (I 11 1).toNatClampNeg a1) (fun I_2 => ck (inb (I_2 11 1) 40) (nm (sI I_2 1 (I_2 11 1).toNatClampNeg a2) (fun I_4 => ck (inb (I_4 11 1) 40) (nm (sI I_4 2 (I_4 11 1).toNatClampNeg a3) (fun I_6 => ck (inb (I_6 11 1) 40) (nm (sI I_6 3 (I_6 11 1).toNatClampNeg a4) (fun I_8 => ck (inb (I_8 11 1) 40) (nm (sI I_8 4 (I_8 11 1).toNatClampNeg a5) (fun I_10 => ck (inb (I_10 11 1) 40) (nm (sI I_10 5 (I_10 11 1).toNatClampNeg (-1)) (fun I_12 => nm (sI I_12 11 1 ((I_12 11 1) + 1)) (fun I_13 => some (I_12 11 1, I_13, L))))))))))))))

def fK8_isMatch_50 (I : FI) (L : FL) : Option (Int32) :=
some 1
def fK8_isMatch (a1 : Int32) (a2 : Int32) (a3 : Int32) (I : FI) (L : FL) : Option (Int32) :=
ck (inb a1 40) ((if (I 4 a1.toNatClampNeg) = 0 then ck (inb a1 40) ((if (I 1 a1.toNatClampNeg) = a2 then some 0 else (if a3 = 0 then fK8_isMatch_50 I L else (if a2 = 0 then ck (inb a1 40) ((if a3 < (I 3 a1.toNatClampNeg) then some 0 else fK8_isMatch_50 I L)) else ck (inb a1 40) ((if (I 3 a1.toNatClampNeg) < a3 then some 0 else fK8_isMatch_50 I L)))))) else some 0))

def fK8_match_71 (k5 : Int32 → Int32 → Int32 → Int32 → FI → FL → Option (Int32)) (v1 : Int32) (v2 : Int32) (v3 : Int32) (v4 : Int32) (I : FI) (L : FL) : Option (Int32) :=
nm (v4 + 1) (fun x_1 => k5 v1 v2 v3 x_1 I L)
def fK8_match_68 (k5 : Int32 → Int32 → Int32 → Int32 → FI → FL → Option (Int32)) (v1 : Int32) (v2 : Int32) (v4 : Int32) (I : FI) (L : FL) : Option (Int32) :=
fK8_match_71 k5 v1 v2 v4 v4 I L
def bK8_match_5 (k5 : Int32 → Int32 → Int32 → Int32 → FI → FL → Option (Int32)) (v1 : Int32) (v2 : Int32) (v3 : Int32) (v4 : Int32) (I : FI) (L : FL) : Option (Int32) :=
(if (I 11 1) ≤ v4 then some v3 else bn (fK8_isMatch v4 v1 v2 I L) (fun r_3 => (if r_3 = 0 then fK8_match_71 k5 v1 v2 v3 v4 I L else (if v3 < 0 then fK8_match_68 k5 v1 v2 v4 I L else (if v1 = 0 then ck (inb v4 40) (ck (inb v3 40) ((if (I 3 v3.toNatClampNeg) ≤ (I 3 v4.toNatClampNeg) then fK8_match_71 k5 v1 v2 v3 v4 I L else fK8_match_68 k5 v1 v2 v4 I L))) else ck (inb v4 40) (ck (inb v3 40) ((if (I 3 v4.toNatClampNeg) ≤ (I 3 v3.toNatClampNeg) then fK8_match_71 k5 v1 v2 v3 v4 I L else fK8_match_68 k5 v1 v2 v4 I L))))))))
def fK8_match_5 : Nat → Int32 → Int32 → Int32 → Int32 → FI → FL → Option (Int32)
  | 0 => fun _ _ _ _ _ _ => none
  | n + 1 => bK8_match_5 (fK8_match_5 n)
def fK8_match (a1 : Int32) (a2 : Int32) (I : FI) (L : FL) : Option (Int32) :=
fK8_match_5 FU a1 a2 (-1) 0 I L

def fK8_meets_288 (k19 : Int32 → Int32 → Int32 → Int32 → Int32 → FI → FL → Option (FI × FL)) (v1 : Int32) (v3 : Int32) (v4 : Int32) (v5 : Int32) (v6 : Int32) (v8 : Int32) (v9 : Int32) (v10 : Int32) (v11 : Int32) (v12 : Int32) (I : FI) (L : FL) : Option (FI × FL) :=
nm (sI I 11 4 v9) (fun I_1 => ck (inb v12 200) (nm (sI I_1 7 v12.toNatClampNeg v10) (fun I_3 => ck (inb v12 200) (nm (sI I_3 8 v12.toNatClampNeg v11) (fun I_5 => ck (inb v12 200) (nm (sI I_5 9 v12.toNatClampNeg v9) (fun I_7 => ck (inb v12 200) (nm (sI I_7 10 v12.toNatClampNeg v8) (fun I_9 => nm (sI I_9 11 2 ((I_9 11 2) + 1)) (fun I_10 => k19 v1 v3 v4 v5 v6 I_10 L))))))))))
def fK8_meets_168 (k19 : Int32 → Int32 → Int32 → Int32 → Int32 → FI → FL → Option (FI × FL)) (v1 : Int32) (v3 : Int32) (v4 : Int32) (v5 : Int32) (v6 : Int32) (v7 : Int32) (v8 : Int32) (v9 : Int32) (v10 : Int32) (u0 : Int32) (I : FI) (L : FL) : Option (FI × FL) :=
nm ((I 11 2) - (I 11 2) / 200 * 200) (fun x_1 => ck (inb v10 8) (ck (inb v10 8) (nm (sL L 0 v10.toNatClampNeg ((L 0 v10.toNatClampNeg) - (v8.toInt64 * v9.toInt64))) (fun L_4 => ck (inb v10 8) (ck (inb v10 8) (nm (sL L_4 1 v10.toNatClampNeg ((L_4 1 v10.toNatClampNeg) + v8.toInt64)) (fun L_7 => ck (inb u0 8) (ck (inb u0 8) (nm (sL L_7 0 u0.toNatClampNeg ((L_7 0 u0.toNatClampNeg) + (v8.toInt64 * v9.toInt64))) (fun L_10 => ck (inb u0 8) (ck (inb u0 8) (nm (sL L_10 1 u0.toNatClampNeg ((L_10 1 u0.toNatClampNeg) - v8.toInt64)) (fun L_13 => ck (inb v1 40) (ck (inb v1 40) (nm (sI I 2 v1.toNatClampNeg ((I 2 v1.toNatClampNeg) - v8)) (fun I_16 => ck (inb v7 40) (ck (inb v7 40) (nm (sI I_16 2 v7.toNatClampNeg ((I_16 2 v7.toNatClampNeg) - v8)) (fun I_19 => nm (v6 - v8) (fun x_20 => ck (inb v7 40) ((if (I_19 2 v7.toNatClampNeg) = 0 then ck (inb v7 40) (nm (sI I_19 4 v7.toNatClampNeg 2) (fun I_24 => fK8_meets_288 k19 v1 v3 v4 v5 x_20 v8 v9 v10 u0 x_1 I_24 L_13)) else fK8_meets_288 k19 v1 v3 v4 v5 x_20 v8 v9 v10 u0 x_1 I_19 L_13))))))))))))))))))))))
def fK8_meets_149 (k19 : Int32 → Int32 → Int32 → Int32 → Int32 → FI → FL → Option (FI × FL)) (v1 : Int32) (v3 : Int32) (v4 : Int32) (v5 : Int32) (v6 : Int32) (v7 : Int32) (v8 : Int32) (v9 : Int32) (u0 : Int32) (I : FI) (L : FL) : Option (FI × FL) :=
(if v5 = 0 then ck (inb v7 40) (fK8_meets_168 k19 v1 v3 v4 v5 v6 v7 v8 v9 u0 (I 0 v7.toNatClampNeg) I L) else fK8_meets_168 k19 v1 v3 v4 v5 v6 v7 v8 v9 u0 v4 I L)
def fK8_meets_126 (k19 : Int32 → Int32 → Int32 → Int32 → Int32 → FI → FL → Option (FI × FL)) (v1 : Int32) (v3 : Int32) (v4 : Int32) (v5 : Int32) (v6 : Int32) (v7 : Int32) (v8 : Int32) (v9 : Int32) (I : FI) (L : FL) : Option (FI × FL) :=
(if v8 = 0 then some (I, L) else (if v5 = 0 then fK8_meets_149 k19 v1 v3 v4 v5 v6 v7 v8 v9 v4 I L else ck (inb v7 40) (fK8_meets_149 k19 v1 v3 v4 v5 v6 v7 v8 v9 (I 0 v7.toNatClampNeg) I L)))
def fK8_meets_41 (k19 : Int32 → Int32 → Int32 → Int32 → Int32 → FI → FL → Option (FI × FL)) (v1 : Int32) (v3 : Int32) (v4 : Int32) (v5 : Int32) (v6 : Int32) (u0 : Int32) (u1 : Int32) (I : FI) (L : FL) : Option (FI × FL) :=
bn (fK8_match u1 u0 I L) (fun r_2 => (if 0 ≤ r_2 then ck (inb r_2 40) ((if (I 0 r_2.toNatClampNeg) = v4 then ck (inb r_2 40) (nm (sI I 4 r_2.toNatClampNeg 2) (fun I_17 => k19 v1 v3 v4 v5 v6 I_17 L)) else ck (inb r_2 40) (nm (if I 2 r_2.toNatClampNeg < v6 then I 2 r_2.toNatClampNeg else v6) (fun x_7 => ck (inb r_2 40) (nm (I 3 r_2.toNatClampNeg) (fun x_9 => (if v3 = 0 then fK8_meets_126 k19 v1 v3 v4 v5 v6 r_2 x_7 x_9 I L else (if v5 = 0 then bn (fK8_freeCash v4 I L) (fun r_13 => ck (decide (¬ x_9.toInt64 = 0)) (nm ((if r_13 / x_9.toInt64 < x_7.toInt64 then r_13 / x_9.toInt64 else x_7.toInt64).toInt32) (fun x_15 => fK8_meets_126 k19 v1 v3 v4 v5 v6 r_2 x_15 x_9 I L))) else fK8_meets_126 k19 v1 v3 v4 v5 v6 r_2 x_7 x_9 I L)))))))) else some (I, L)))
def bK8_meets_19 (k19 : Int32 → Int32 → Int32 → Int32 → Int32 → FI → FL → Option (FI × FL)) (v1 : Int32) (v3 : Int32) (v4 : Int32) (v5 : Int32) (v6 : Int32) (I : FI) (L : FL) : Option (FI × FL) :=
(if v6 ≤ 0 then some (I, L) else (if v3 = 0 then ck (inb v1 40) (fK8_meets_41 k19 v1 v3 v4 v5 v6 (I 3 v1.toNatClampNeg) v5 I L) else fK8_meets_41 k19 v1 v3 v4 v5 v6 0 v5 I L))
def fK8_meets_19 : Nat → Int32 → Int32 → Int32 → Int32 → Int32 → FI → FL → Option (FI × FL)
  | 0 => fun _ _ _ _ _ _ _ => none
  | n + 1 => bK8_meets_19 (fK8_meets_19 n)
def fK8_meets (a1 : Int32) (a2 : Int32) (a3 : Int32) (I : FI) (L : FL) : Option (FI × FL) :=
ck (inb a1 40) (nm (I 0 a1.toNatClampNeg) (fun x_2 => ck (inb a1 40) (nm (I 1 a1.toNatClampNeg) (fun x_4 => fK8_meets_19 FU a1 a3 x_2 x_4 a2 I L))))

def fK8_sum_50 (k6 : Int32 → Int32 → Int32 → Int64 → Int32 → FI → FL → Option (Int64)) (v1 : Int32) (v2 : Int32) (v3 : Int32) (v4 : Int64) (v6 : Int32) (I : FI) (L : FL) : Option (Int64) :=
nm (v6 + 1) (fun x_1 => k6 v1 v2 v3 v4 x_1 I L)
def bK8_sum_6 (k6 : Int32 → Int32 → Int32 → Int64 → Int32 → FI → FL → Option (Int64)) (v1 : Int32) (v2 : Int32) (v3 : Int32) (v4 : Int64) (v6 : Int32) (I : FI) (L : FL) : Option (Int64) :=
(if (I 11 1) ≤ v6 then some v4 else bn (fK8_isMatch v6 v2 v3 I L) (fun r_3 => (if r_3 = 0 then fK8_sum_50 k6 v1 v2 v3 v4 v6 I L else ck (inb v6 40) ((if (I 0 v6.toNatClampNeg) = v1 then fK8_sum_50 k6 v1 v2 v3 v4 v6 I L else ck (inb v6 40) (nm (v4 + ((I 2 v6.toNatClampNeg).toInt64)) (fun x_8 => fK8_sum_50 k6 v1 v2 v3 x_8 v6 I L)))))))
def fK8_sum_6 : Nat → Int32 → Int32 → Int32 → Int64 → Int32 → FI → FL → Option (Int64)
  | 0 => fun _ _ _ _ _ _ _ => none
  | n + 1 => bK8_sum_6 (fK8_sum_6 n)
def fK8_sum (a1 : Int32) (a2 : Int32) (a3 : Int32) (I : FI) (L : FL) : Option (Int64) :=
fK8_sum_6 FU a1 a2 a3 0 0 I L

def fK8_ordered_357 (v1 : Int32) (v2 : Int32) (v3 : Int32) (v4 : Int32) (v5 : Int32) (v6 : Int32) (I : FI) (L : FL) : Option (Int32 × FI × FL) :=
bq (fK8_fresh v2 v1 v3 v4 2 I L) (fun r_2 I_3 L_4 => bv (fK8_meets r_2 v3 0 I_3 L_4) (fun I_6 L_7 => ck (inb r_2 40) ((if (I_6 2 r_2.toNatClampNeg) ≤ 0 then some (r_2, I_6, L_7) else (if v6 = 0 then ck (inb r_2 40) (nm (sI I_6 4 r_2.toNatClampNeg 0) (fun I_12 => (if v5 ≤ 0 then some (r_2, I_12, L_7) else ck (inb r_2 40) (nm (sI I_12 5 r_2.toNatClampNeg ((I_12 11 5) + v5)) (fun I_15 => some (r_2, I_15, L_7)))))) else some (r_2, I_6, L_7))))))
def fK8_ordered_339 (v1 : Int32) (v2 : Int32) (v3 : Int32) (v4 : Int32) (v5 : Int32) (v6 : Int32) (v8 : Int32) (I : FI) (L : FL) : Option (Int32 × FI × FL) :=
(if v8 = 0 then fK8_ordered_357 v1 v2 v3 v4 v5 v6 I L else bn (fK8_match v1 v4 I L) (fun r_3 => (if r_3 < 0 then fK8_ordered_357 v1 v2 v3 v4 v5 v6 I L else some ((-17), I, L))))
def fK8_ordered_320 (v1 : Int32) (v2 : Int32) (v3 : Int32) (v4 : Int32) (v5 : Int32) (v6 : Int32) (v7 : Int32) (v8 : Int32) (I : FI) (L : FL) : Option (Int32 × FI × FL) :=
(if v7 = 0 then fK8_ordered_339 v1 v2 v3 v4 v5 v6 v8 I L else bn (fK8_sum v2 v1 v4 I L) (fun r_3 => (if (lg_cmp r_3 v3.toInt64) < 0 then some ((-17), I, L) else fK8_ordered_339 v1 v2 v3 v4 v5 v6 v8 I L)))
def fK8_ordered_272 (v1 : Int32) (v2 : Int32) (v3 : Int32) (v4 : Int32) (v5 : Int32) (v6 : Int32) (v7 : Int32) (v8 : Int32) (I : FI) (L : FL) : Option (Int32 × FI × FL) :=
(if (I 11 1) = 40 then some ((-15), I, L) else (if v1 = 0 then bn (fK8_freeCash v2 I L) (fun r_7 => (if 0 ≤ (lg_cmp r_7 (v3.toInt64 * v4.toInt64)) then fK8_ordered_320 v1 v2 v3 v4 v5 v6 v7 v8 I L else some ((-16), I, L))) else bn (fK8_freeGoods v2 I L) (fun r_4 => (if 0 ≤ (lg_cmp r_4 v3.toInt64) then fK8_ordered_320 v1 v2 v3 v4 v5 v6 v7 v8 I L else some ((-16), I, L)))))
def fK8_ordered_246 (v1 : Int32) (v2 : Int32) (v3 : Int32) (v4 : Int32) (v5 : Int32) (v6 : Int32) (v7 : Int32) (v8 : Int32) (I : FI) (L : FL) : Option (Int32 × FI × FL) :=
(if (I 12 0) = 5 then fK8_ordered_272 v1 v2 v3 v4 v5 v6 v7 v8 I L else (if v6 = 0 then (if v7 = 0 then (if v8 = 0 then some ((-11), I, L) else fK8_ordered_272 v1 v2 v3 v4 v5 v6 v7 v8 I L) else fK8_ordered_272 v1 v2 v3 v4 v5 v6 v7 v8 I L) else fK8_ordered_272 v1 v2 v3 v4 v5 v6 v7 v8 I L))
def fK8_ordered_206 (v1 : Int32) (v2 : Int32) (v3 : Int32) (v4 : Int32) (v5 : Int32) (v6 : Int32) (v7 : Int32) (u0 : Int32) (I : FI) (L : FL) : Option (Int32 × FI × FL) :=
(if (I 12 0) = 7 then bn (fK8_is 5 25 I L) (fun r_3 => (if r_3 = 0 then fK8_ordered_246 v1 v2 v3 v4 v5 v6 v7 u0 I L else bn (fK8_number 6 1 99 I L) (fun r_6 => (if 0 ≤ r_6 then fK8_ordered_272 v1 v2 v3 v4 r_6 v6 v7 u0 I L else some ((-11), I, L))))) else fK8_ordered_246 v1 v2 v3 v4 v5 v6 v7 u0 I L)
def fK8_ordered_205 (v1 : Int32) (v2 : Int32) (v3 : Int32) (v4 : Int32) (v5 : Int32) (v6 : Int32) (v7 : Int32) (I : FI) (L : FL) : Option (Int32 × FI × FL) :=
fK8_ordered_206 v1 v2 v3 v4 v5 v6 v7 0 I L
def fK8_ordered_180 (v1 : Int32) (v2 : Int32) (v3 : Int32) (v4 : Int32) (v5 : Int32) (v6 : Int32) (u0 : Int32) (I : FI) (L : FL) : Option (Int32 × FI × FL) :=
(if (I 12 0) = 6 then bn (fK8_is 5 24 I L) (fun r_3 => (if r_3 = 0 then fK8_ordered_205 v1 v2 v3 v4 v5 v6 u0 I L else fK8_ordered_206 v1 v2 v3 v4 v5 v6 u0 1 I L)) else fK8_ordered_205 v1 v2 v3 v4 v5 v6 u0 I L)
def fK8_ordered_179 (v1 : Int32) (v2 : Int32) (v3 : Int32) (v4 : Int32) (v5 : Int32) (v6 : Int32) (I : FI) (L : FL) : Option (Int32 × FI × FL) :=
fK8_ordered_180 v1 v2 v3 v4 v5 v6 0 I L
def fK8_ordered_154 (v1 : Int32) (v2 : Int32) (v3 : Int32) (v4 : Int32) (v5 : Int32) (u0 : Int32) (I : FI) (L : FL) : Option (Int32 × FI × FL) :=
(if (I 12 0) = 6 then bn (fK8_is 5 23 I L) (fun r_3 => (if r_3 = 0 then fK8_ordered_179 v1 v2 v3 v4 v5 u0 I L else fK8_ordered_180 v1 v2 v3 v4 v5 u0 1 I L)) else fK8_ordered_179 v1 v2 v3 v4 v5 u0 I L)
def fK8_ordered_153 (v1 : Int32) (v2 : Int32) (v3 : Int32) (v4 : Int32) (v5 : Int32) (I : FI) (L : FL) : Option (Int32 × FI × FL) :=
fK8_ordered_154 v1 v2 v3 v4 v5 0 I L
def fK8_ordered_98 (v1 : Int32) (v2 : Int32) (v3 : Int32) (I : FI) (L : FL) : Option (Int32 × FI × FL) :=
bn (fK8_number 4 1 9999 I L) (fun r_2 => bn (fK8_is 3 21 I L) (fun r_4 => (if r_4 = 0 then some ((-11), I, L) else (if 0 ≤ r_2 then (if (I 12 0) = 6 then bn (fK8_is 5 22 I L) (fun r_9 => (if r_9 = 0 then fK8_ordered_153 v1 v2 v3 r_2 0 I L else fK8_ordered_154 v1 v2 v3 r_2 0 1 I L)) else fK8_ordered_153 v1 v2 v3 r_2 0 I L) else some ((-11), I, L)))))
def fK8_ordered_76 (v1 : Int32) (v2 : Int32) (v3 : Int32) (I : FI) (L : FL) : Option (Int32 × FI × FL) :=
bq (fK8_fresh v2 v1 v3 0 2 I L) (fun r_2 I_3 L_4 => bv (fK8_meets r_2 v3 1 I_3 L_4) (fun I_6 L_7 => some (r_2, I_6, L_7)))
def fK8_ordered (a1 : Int32) (I : FI) (L : FL) : Option (Int32 × FI × FL) :=
bn (fK8_whose 1 I L) (fun r_2 => bn (fK8_number 2 1 9999 I L) (fun r_4 => (if r_2 < 0 then some ((-11), I, L) else (if 0 ≤ r_4 then (if (I 12 0) = 4 then bn (fK8_is 3 20 I L) (fun r_9 => (if r_9 = 0 then fK8_ordered_98 a1 r_2 r_4 I L else (if (I 11 1) = 40 then some ((-15), I, L) else (if a1 = 1 then bn (fK8_freeGoods r_2 I L) (fun r_14 => (if 0 ≤ (lg_cmp r_14 r_4.toInt64) then fK8_ordered_76 a1 r_2 r_4 I L else some ((-16), I, L))) else fK8_ordered_76 a1 r_2 r_4 I L)))) else fK8_ordered_98 a1 r_2 r_4 I L) else some ((-11), I, L)))))

def fK8_done_582 (k517 : Int32 → Int32 → Int32 → FI → FL → Option (Int32 × FI × FL)) (k535 : Int32 → Int32 → Int32 → Int32 → FI → FL → Option (Int32 × FI × FL)) (v1 : Int32) (v2 : Int32) (v3 : Int32) (v4 : Int32) (I : FI) (L : FL) : Option (Int32 × FI × FL) :=
nm (v4 + 1) (fun x_1 => k535 v1 v2 v3 x_1 I L)
def bK8_done_535 (k517 : Int32 → Int32 → Int32 → FI → FL → Option (Int32 × FI × FL)) (k535 : Int32 → Int32 → Int32 → Int32 → FI → FL → Option (Int32 × FI × FL)) (v1 : Int32) (v2 : Int32) (v3 : Int32) (v4 : Int32) (I : FI) (L : FL) : Option (Int32 × FI × FL) :=
(if (I 11 1) ≤ v4 then nm (v3 + 1) (fun x_2 => k517 v1 v2 x_2 I L) else ck (inb v4 40) ((if (I 4 v4.toNatClampNeg) = 0 then ck (inb v4 40) ((if (I 5 v4.toNatClampNeg) = (I 11 5) then ck (inb v4 40) (nm (sI I 4 v4.toNatClampNeg 2) (fun I_8 => nm (v2 + 1) (fun x_9 => fK8_done_582 k517 k535 v1 x_9 v3 v4 I_8 L))) else fK8_done_582 k517 k535 v1 v2 v3 v4 I L)) else fK8_done_582 k517 k535 v1 v2 v3 v4 I L)))
def fK8_done_535 (k517 : Int32 → Int32 → Int32 → FI → FL → Option (Int32 × FI × FL)) : Nat → Int32 → Int32 → Int32 → Int32 → FI → FL → Option (Int32 × FI × FL)
  | 0 => fun _ _ _ _ _ _ => none
  | n + 1 => bK8_done_535 k517 (fK8_done_535 k517 n)
def bK8_done_517 (k517 : Int32 → Int32 → Int32 → FI → FL → Option (Int32 × FI × FL)) (v1 : Int32) (v2 : Int32) (v3 : Int32) (I : FI) (L : FL) : Option (Int32 × FI × FL) :=
(if v1 ≤ v3 then some (v2, I, L) else nm (sI I 11 5 ((I 11 5) + 1)) (fun I_2 => fK8_done_535 k517 FU v1 v2 v3 0 I_2 L))
def fK8_done_517 : Nat → Int32 → Int32 → Int32 → FI → FL → Option (Int32 × FI × FL)
  | 0 => fun _ _ _ _ _ => none
  | n + 1 => bK8_done_517 (fK8_done_517 n)
def fK8_done_373 (v1 : Int32) (v2 : Int32) (v3 : Int32) (v4 : Int32) (u0 : Int32) (u1 : Int32) (I : FI) (L : FL) : Option (Int32 × FI × FL) :=
(if u1 = u0 then (if v2 < 0 then some ((-11), I, L) else (if v3 < 0 then some ((-11), I, L) else (if 0 ≤ v4 then (if v3 < (I 11 1) then ck (inb v3 40) ((if (I 0 v3.toNatClampNeg) = v2 then ck (inb v3 40) ((if (I 4 v3.toNatClampNeg) = 2 then some ((-14), I, L) else (if v1 = 0 then ck (inb v3 40) (nm (sI I 4 v3.toNatClampNeg 2) (fun I_18 => ck (inb v3 40) (some (I_18 2 v3.toNatClampNeg, I_18, L)))) else ck (inb v3 40) ((if v4 < (I 2 v3.toNatClampNeg) then ck (inb v3 40) (ck (inb v3 40) (nm (sI I 2 v3.toNatClampNeg ((I 2 v3.toNatClampNeg) - v4)) (fun I_15 => ck (inb v3 40) (some (I_15 2 v3.toNatClampNeg, I_15, L))))) else some ((-11), I, L)))))) else some ((-13), I, L))) else some ((-12), I, L)) else some ((-11), I, L)))) else some ((-11), I, L))
def fK8_done_358 (v1 : Int32) (v2 : Int32) (v3 : Int32) (u0 : Int32) (I : FI) (L : FL) : Option (Int32 × FI × FL) :=
(if v1 = 0 then fK8_done_373 v1 v2 v3 u0 3 (I 12 0) I L else fK8_done_373 v1 v2 v3 u0 4 (I 12 0) I L)
def fK8_done_325 (I : FI) (L : FL) : Option (Int32 × FI × FL) :=
bn (fK8_is 0 28 I L) (fun r_2 => bn (fK8_whose 1 I L) (fun r_4 => bn (fK8_any 2 I L) (fun r_6 => (if r_2 = 0 then fK8_done_358 r_2 r_4 r_6 0 I L else bn (fK8_any 3 I L) (fun r_9 => fK8_done_358 r_2 r_4 r_6 r_9 I L)))))
def fK8_done_241 (v1 : Int32) (v2 : Int32) (v3 : Int32) (u0 : Int32) (I : FI) (L : FL) : Option (Int32 × FI × FL) :=
(if (I 12 0) = 6 then (if u0 < 0 then some ((-11), I, L) else (if v1 < 0 then some ((-11), I, L) else (if v2 < 0 then some ((-11), I, L) else bn (fK8_is 4 21 I L) (fun r_6 => (if r_6 = 0 then some ((-11), I, L) else (if 0 ≤ v3 then (if (I 11 1) = 40 then some ((-15), I, L) else bq (fK8_fresh v1 u0 v2 v3 1 I L) (fun r_11 I_12 L_13 => some (r_11, I_12, L_13))) else some ((-11), I, L))))))) else some ((-11), I, L))
def fK8_done_172 (u0 : Int32) (I : FI) (L : FL) : Option (Int32 × FI × FL) :=
bq (fK8_ordered u0 I L) (fun r_2 I_3 L_4 => some (r_2, I_3, L_4))
def fK8_done_156 (I : FI) (L : FL) : Option (Int32 × FI × FL) :=
bn (fK8_is 0 18 I L) (fun r_2 => (if r_2 = 0 then fK8_done_172 1 I L else fK8_done_172 0 I L))
def fK8_done_30 (I : FI) (L : FL) : Option (Int32 × FI × FL) :=
bn (fK8_whose 1 I L) (fun r_2 => bn (fK8_any 2 I L) (fun r_4 => (if (I 12 0) = 3 then (if r_2 < 0 then some ((-11), I, L) else (if 0 ≤ r_4 then bn (fK8_is 0 15 I L) (fun r_9 => (if r_9 = 0 then bn (fK8_is 0 16 I L) (fun r_12 => (if r_12 = 0 then bn (fK8_freeCash r_2 I L) (fun r_15 => (if 0 ≤ (lg_cmp r_15 r_4.toInt64) then ck (inb r_2 8) (ck (inb r_2 8) (nm (sL L 0 r_2.toNatClampNeg ((L 0 r_2.toNatClampNeg) - r_4.toInt64)) (fun L_19 => some (r_4, I, L_19)))) else some ((-16), I, L))) else ck (inb r_2 8) (ck (inb r_2 8) (nm (sL L 1 r_2.toNatClampNeg ((L 1 r_2.toNatClampNeg) + r_4.toInt64)) (fun L_22 => some (r_4, I, L_22)))))) else ck (inb r_2 8) (ck (inb r_2 8) (nm (sL L 0 r_2.toNatClampNeg ((L 0 r_2.toNatClampNeg) + r_4.toInt64)) (fun L_25 => some (r_4, I, L_25)))))) else some ((-11), I, L))) else some ((-11), I, L))))
def fK8_done (I : FI) (L : FL) : Option (Int32 × FI × FL) :=
bn (fK8_is 0 15 I L) (fun r_2 => (if r_2 = 0 then bn (fK8_is 0 16 I L) (fun r_5 => (if r_5 = 0 then bn (fK8_is 0 17 I L) (fun r_8 => (if r_8 = 0 then bn (fK8_is 0 18 I L) (fun r_11 => (if r_11 = 0 then bn (fK8_is 0 19 I L) (fun r_14 => (if r_14 = 0 then bn (fK8_is 0 26 I L) (fun r_17 => (if r_17 = 0 then bn (fK8_is 0 27 I L) (fun r_20 => (if r_20 = 0 then bn (fK8_is 0 28 I L) (fun r_23 => (if r_23 = 0 then bn (fK8_is 0 29 I L) (fun r_26 => (if r_26 = 0 then some ((-11), I, L) else bn (fK8_number 1 1 99 I L) (fun r_29 => (if (I 12 0) = 2 then (if 0 ≤ r_29 then fK8_done_517 FU r_29 0 0 I L else some ((-11), I, L)) else some ((-11), I, L))))) else fK8_done_325 I L)) else fK8_done_325 I L)) else bn (fK8_whose 2 I L) (fun r_33 => bn (fK8_number 3 1 9999 I L) (fun r_35 => bn (fK8_number 5 1 9999 I L) (fun r_37 => bn (fK8_is 1 18 I L) (fun r_39 => (if r_39 = 0 then bn (fK8_is 1 19 I L) (fun r_42 => (if r_42 = 0 then fK8_done_241 r_33 r_35 r_37 (-1) I L else fK8_done_241 r_33 r_35 r_37 1 I L)) else fK8_done_241 r_33 r_35 r_37 0 I L))))))) else fK8_done_156 I L)) else fK8_done_156 I L)) else fK8_done_30 I L)) else fK8_done_30 I L)) else fK8_done_30 I L))

def fK8_waking_67 (k2 : Int32 → FI → FL → Option (Int32)) (v1 : Int32) (I : FI) (L : FL) : Option (Int32) :=
nm (v1 + 1) (fun x_1 => k2 x_1 I L)
def bK8_waking_2 (k2 : Int32 → FI → FL → Option (Int32)) (v1 : Int32) (I : FI) (L : FL) : Option (Int32) :=
(if (I 11 1) ≤ v1 then some (-1) else ck (inb v1 40) ((if (I 4 v1.toNatClampNeg) = 1 then (if (I 11 4) = 0 then fK8_waking_67 k2 v1 I L else ck (inb v1 40) ((if (I 1 v1.toNatClampNeg) = 0 then ck (inb v1 40) ((if (I 11 4) < (I 3 v1.toNatClampNeg) then fK8_waking_67 k2 v1 I L else some v1)) else ck (inb v1 40) ((if (I 3 v1.toNatClampNeg) < (I 11 4) then fK8_waking_67 k2 v1 I L else some v1))))) else fK8_waking_67 k2 v1 I L)))
def fK8_waking_2 : Nat → Int32 → FI → FL → Option (Int32)
  | 0 => fun _ _ _ => none
  | n + 1 => bK8_waking_2 (fK8_waking_2 n)
def fK8_waking (I : FI) (L : FL) : Option (Int32) :=
fK8_waking_2 FU 0 I L

def fK8_line_81 (k43 : Int32 → Int32 → FI → FL → Option (Int32 × FI × FL)) (v1 : Int32) (v2 : Int32) (v3 : Int32) (I : FI) (L : FL) : Option (Int32 × FI × FL) :=
ck (inb v2 40) (nm (sI I 4 v2.toNatClampNeg 2) (fun I_2 => bv (fK8_meets v2 v3 1 I_2 L) (fun I_4 L_5 => bn (fK8_waking I_4 L_5) (fun r_7 => k43 v1 r_7 I_4 L_5))))
def bK8_line_43 (k43 : Int32 → Int32 → FI → FL → Option (Int32 × FI × FL)) (v1 : Int32) (v2 : Int32) (I : FI) (L : FL) : Option (Int32 × FI × FL) :=
(if v2 < 0 then some (v1, I, L) else ck (inb v2 40) (nm (I 2 v2.toNatClampNeg) (fun x_3 => ck (inb v2 40) ((if (I 1 v2.toNatClampNeg) = 1 then ck (inb v2 40) (bn (fK8_freeGoods (I 0 v2.toNatClampNeg) I L) (fun r_8 => nm ((if r_8 < x_3.toInt64 then r_8 else x_3.toInt64).toInt32) (fun x_9 => fK8_line_81 k43 v1 v2 x_9 I L))) else fK8_line_81 k43 v1 v2 x_3 I L)))))
def fK8_line_43 : Nat → Int32 → Int32 → FI → FL → Option (Int32 × FI × FL)
  | 0 => fun _ _ _ _ => none
  | n + 1 => bK8_line_43 (fK8_line_43 n)
def fK8_line_16 (u0 : Int32) (I : FI) (L : FL) : Option (Int32 × FI × FL) :=
nm (sI I 11 0 0) (fun I_1 => (if 0 ≤ u0 then bn (fK8_waking I_1 L) (fun r_4 => fK8_line_43 FU u0 r_4 I_1 L) else nm (sI I_1 11 3 ((I_1 11 3) + 1)) (fun I_5 => some (u0, I_5, L))))
def fK8_line (I : FI) (L : FL) : Option (Int32 × FI × FL) :=
bq (fK8_taken I L) (fun r_2 I_3 L_4 => (if r_2 = 0 then fK8_line_16 (-11) I_3 L_4 else bq (fK8_done I_3 L_4) (fun r_7 I_8 L_9 => fK8_line_16 r_7 I_8 L_9)))

def fK8_order (a1 : Int32) (a2 : Int32) (I : FI) (L : FL) : Option (Int32) :=
(if a1 < 0 then some (-1) else (if (I 11 1) ≤ a1 then some (-1) else (if a2 < 0 then some (-1) else (if a2 ≤ 5 then (if a2 = 0 then ck (inb a1 40) (some (I 0 a1.toNatClampNeg)) else (if a2 = 1 then ck (inb a1 40) (some (I 1 a1.toNatClampNeg)) else (if a2 = 2 then ck (inb a1 40) (some (I 2 a1.toNatClampNeg)) else (if a2 = 3 then ck (inb a1 40) (some (I 3 a1.toNatClampNeg)) else (if a2 = 4 then ck (inb a1 40) (some (I 4 a1.toNatClampNeg)) else ck (inb a1 40) (some (I 5 a1.toNatClampNeg))))))) else some (-1)))))

def fK8_trader_114 (k79 : Int32 → Int64 → Int32 → FI → FL → Option (Int64)) (v1 : Int32) (v3 : Int64) (v5 : Int32) (I : FI) (L : FL) : Option (Int64) :=
nm (v5 + 1) (fun x_1 => k79 v1 v3 x_1 I L)
def bK8_trader_79 (k79 : Int32 → Int64 → Int32 → FI → FL → Option (Int64)) (v1 : Int32) (v3 : Int64) (v5 : Int32) (I : FI) (L : FL) : Option (Int64) :=
(if (I 11 1) ≤ v5 then some v3 else ck (inb v5 40) ((if (I 0 v5.toNatClampNeg) = v1 then ck (inb v5 40) ((if (I 4 v5.toNatClampNeg) = 2 then fK8_trader_114 k79 v1 v3 v5 I L else nm (v3 + 1) (fun x_6 => fK8_trader_114 k79 v1 x_6 v5 I L))) else fK8_trader_114 k79 v1 v3 v5 I L)))
def fK8_trader_79 : Nat → Int32 → Int64 → Int32 → FI → FL → Option (Int64)
  | 0 => fun _ _ _ _ _ => none
  | n + 1 => bK8_trader_79 (fK8_trader_79 n)
def fK8_trader (a1 : Int32) (a2 : Int32) (I : FI) (L : FL) : Option (Int64) :=
(if a1 < 0 then some (-1) else (if 8 ≤ a1 then some (-1) else (if a2 < 0 then some (-1) else (if a2 ≤ 4 then (if 4 ≤ a2 then fK8_trader_79 FU a1 0 0 I L else (if a2 = 0 then ck (inb a1 8) (some (L 0 a1.toNatClampNeg)) else (if a2 = 1 then ck (inb a1 8) (some (L 1 a1.toNatClampNeg)) else (if a2 = 2 then bn (fK8_heldCash a1 I L) (fun r_12 => some r_12) else bn (fK8_heldGoods a1 I L) (fun r_10 => some r_10))))) else some (-1)))))

def fK8_level_248 (k188 : Int32 → Int32 → Int32 → Int32 → Int32 → Int32 → FI → FL → Option (Int32)) (v1 : Int32) (v3 : Int32) (v4 : Int32) (v5 : Int32) (v6 : Int32) (v7 : Int32) (I : FI) (L : FL) : Option (Int32) :=
nm (v7 + 1) (fun x_1 => k188 v1 v3 v4 v5 v6 x_1 I L)
def bK8_level_188 (k188 : Int32 → Int32 → Int32 → Int32 → Int32 → Int32 → FI → FL → Option (Int32)) (v1 : Int32) (v3 : Int32) (v4 : Int32) (v5 : Int32) (v6 : Int32) (v7 : Int32) (I : FI) (L : FL) : Option (Int32) :=
(if (I 11 1) ≤ v7 then (if v3 = 0 then some v4 else (if v3 = 1 then some v5 else some v6)) else ck (inb v7 40) ((if (I 4 v7.toNatClampNeg) = 0 then ck (inb v7 40) ((if (I 1 v7.toNatClampNeg) = v1 then ck (inb v7 40) ((if (I 3 v7.toNatClampNeg) = v4 then ck (inb v7 40) (nm (v5 + (I 2 v7.toNatClampNeg)) (fun x_11 => nm (v6 + 1) (fun x_12 => fK8_level_248 k188 v1 v3 v4 x_11 x_12 v7 I L))) else fK8_level_248 k188 v1 v3 v4 v5 v6 v7 I L)) else fK8_level_248 k188 v1 v3 v4 v5 v6 v7 I L)) else fK8_level_248 k188 v1 v3 v4 v5 v6 v7 I L)))
def fK8_level_188 : Nat → Int32 → Int32 → Int32 → Int32 → Int32 → Int32 → FI → FL → Option (Int32)
  | 0 => fun _ _ _ _ _ _ _ _ => none
  | n + 1 => bK8_level_188 (fK8_level_188 n)
def fK8_level_156 (k30 : Int32 → Int32 → Int32 → Int32 → Int32 → FI → FL → Option (Int32)) (k42 : Int32 → Int32 → Int32 → Int32 → Int32 → Int32 → Int32 → FI → FL → Option (Int32)) (v1 : Int32) (v2 : Int32) (v3 : Int32) (v4 : Int32) (v5 : Int32) (v6 : Int32) (v7 : Int32) (I : FI) (L : FL) : Option (Int32) :=
nm (v7 + 1) (fun x_1 => k42 v1 v2 v3 v4 v5 v6 x_1 I L)
def fK8_level_147 (k30 : Int32 → Int32 → Int32 → Int32 → Int32 → FI → FL → Option (Int32)) (k42 : Int32 → Int32 → Int32 → Int32 → Int32 → Int32 → Int32 → FI → FL → Option (Int32)) (v1 : Int32) (v2 : Int32) (v3 : Int32) (v4 : Int32) (v5 : Int32) (v7 : Int32) (I : FI) (L : FL) : Option (Int32) :=
ck (inb v7 40) (nm (I 3 v7.toNatClampNeg) (fun x_2 => fK8_level_156 k30 k42 v1 v2 v3 v4 v5 x_2 v7 I L))
def fK8_level_111 (k30 : Int32 → Int32 → Int32 → Int32 → Int32 → FI → FL → Option (Int32)) (k42 : Int32 → Int32 → Int32 → Int32 → Int32 → Int32 → Int32 → FI → FL → Option (Int32)) (v1 : Int32) (v2 : Int32) (v3 : Int32) (v4 : Int32) (v5 : Int32) (v6 : Int32) (v7 : Int32) (I : FI) (L : FL) : Option (Int32) :=
(if v6 < 0 then fK8_level_147 k30 k42 v1 v2 v3 v4 v5 v7 I L else (if v1 = 0 then ck (inb v7 40) ((if (I 3 v7.toNatClampNeg) ≤ v6 then fK8_level_156 k30 k42 v1 v2 v3 v4 v5 v6 v7 I L else fK8_level_147 k30 k42 v1 v2 v3 v4 v5 v7 I L)) else ck (inb v7 40) ((if v6 ≤ (I 3 v7.toNatClampNeg) then fK8_level_156 k30 k42 v1 v2 v3 v4 v5 v6 v7 I L else fK8_level_147 k30 k42 v1 v2 v3 v4 v5 v7 I L))))
def bK8_level_42 (k30 : Int32 → Int32 → Int32 → Int32 → Int32 → FI → FL → Option (Int32)) (k42 : Int32 → Int32 → Int32 → Int32 → Int32 → Int32 → Int32 → FI → FL → Option (Int32)) (v1 : Int32) (v2 : Int32) (v3 : Int32) (v4 : Int32) (v5 : Int32) (v6 : Int32) (v7 : Int32) (I : FI) (L : FL) : Option (Int32) :=
(if (I 11 1) ≤ v7 then (if 0 ≤ v6 then nm (v5 + 1) (fun x_3 => k30 v1 v2 v3 v6 x_3 I L) else some (-1)) else ck (inb v7 40) ((if (I 4 v7.toNatClampNeg) = 0 then ck (inb v7 40) ((if (I 1 v7.toNatClampNeg) = v1 then (if v4 < 0 then fK8_level_111 k30 k42 v1 v2 v3 v4 v5 v6 v7 I L else (if v1 = 0 then ck (inb v7 40) ((if (I 3 v7.toNatClampNeg) < v4 then fK8_level_111 k30 k42 v1 v2 v3 v4 v5 v6 v7 I L else fK8_level_156 k30 k42 v1 v2 v3 v4 v5 v6 v7 I L)) else ck (inb v7 40) ((if v4 < (I 3 v7.toNatClampNeg) then fK8_level_111 k30 k42 v1 v2 v3 v4 v5 v6 v7 I L else fK8_level_156 k30 k42 v1 v2 v3 v4 v5 v6 v7 I L)))) else fK8_level_156 k30 k42 v1 v2 v3 v4 v5 v6 v7 I L)) else fK8_level_156 k30 k42 v1 v2 v3 v4 v5 v6 v7 I L)))
def fK8_level_42 (k30 : Int32 → Int32 → Int32 → Int32 → Int32 → FI → FL → Option (Int32)) : Nat → Int32 → Int32 → Int32 → Int32 → Int32 → Int32 → Int32 → FI → FL → Option (Int32)
  | 0 => fun _ _ _ _ _ _ _ _ _ => none
  | n + 1 => bK8_level_42 k30 (fK8_level_42 k30 n)
def bK8_level_30 (k30 : Int32 → Int32 → Int32 → Int32 → Int32 → FI → FL → Option (Int32)) (v1 : Int32) (v2 : Int32) (v3 : Int32) (v4 : Int32) (v5 : Int32) (I : FI) (L : FL) : Option (Int32) :=
(if v2 < v5 then fK8_level_188 FU v1 v3 v4 0 0 0 I L else fK8_level_42 k30 FU v1 v2 v3 v4 v5 (-1) 0 I L)
def fK8_level_30 : Nat → Int32 → Int32 → Int32 → Int32 → Int32 → FI → FL → Option (Int32)
  | 0 => fun _ _ _ _ _ _ _ => none
  | n + 1 => bK8_level_30 (fK8_level_30 n)
def fK8_level (a1 : Int32) (a2 : Int32) (a3 : Int32) (I : FI) (L : FL) : Option (Int32) :=
(if a1 < 0 then some (-1) else (if 1 < a1 then some (-1) else (if a2 < 0 then some (-1) else (if a3 < 0 then some (-1) else (if a3 ≤ 2 then fK8_level_30 FU a1 a2 a3 (-1) 0 I L else some (-1))))))

def fK8_trade (a1 : Int32) (a2 : Int32) (I : FI) (L : FL) : Option (Int32) :=
(if a1 < 0 then some (-1) else (if (I 11 2) ≤ a1 then some (-1) else (if a1 < ((I 11 2) - 200) then some (-1) else (if a2 < 0 then some (-1) else (if a2 ≤ 3 then nm (a1 - a1 / 200 * 200) (fun x_6 => (if a2 = 0 then ck (inb x_6 200) (some (I 7 x_6.toNatClampNeg)) else (if a2 = 1 then ck (inb x_6 200) (some (I 8 x_6.toNatClampNeg)) else (if a2 = 2 then ck (inb x_6 200) (some (I 9 x_6.toNatClampNeg)) else ck (inb x_6 200) (some (I 10 x_6.toNatClampNeg)))))) else some (-1))))))

def fK8_count_37 (k16 : Int32 → Int32 → Int32 → FI → FL → Option (Int32)) (v1 : Int32) (v2 : Int32) (v3 : Int32) (I : FI) (L : FL) : Option (Int32) :=
nm (v3 + 1) (fun x_1 => k16 v1 v2 x_1 I L)
def bK8_count_16 (k16 : Int32 → Int32 → Int32 → FI → FL → Option (Int32)) (v1 : Int32) (v2 : Int32) (v3 : Int32) (I : FI) (L : FL) : Option (Int32) :=
(if (I 11 1) ≤ v3 then (if v1 = 0 then some (I 11 1) else (if v1 = 1 then some (I 11 2) else (if v1 = 2 then some (I 11 3) else (if v1 = 3 then some (I 11 4) else (if v1 = 4 then some (I 11 5) else (if v1 = 5 then some (I 11 0) else some v2)))))) else ck (inb v3 40) ((if (I 4 v3.toNatClampNeg) = 1 then nm (v2 + 1) (fun x_10 => fK8_count_37 k16 v1 x_10 v3 I L) else fK8_count_37 k16 v1 v2 v3 I L)))
def fK8_count_16 : Nat → Int32 → Int32 → Int32 → FI → FL → Option (Int32)
  | 0 => fun _ _ _ _ _ => none
  | n + 1 => bK8_count_16 (fK8_count_16 n)
def fK8_count (a1 : Int32) (I : FI) (L : FL) : Option (Int32) :=
(if a1 < 0 then some (-1) else (if a1 ≤ 6 then fK8_count_16 FU a1 0 0 I L else some (-1)))
