def v_ND_type_37 (I0 : Nat → Int32) (n1 : Nat) (f1 : Nat → Int32)  (Z : Int32 → (Nat → Int32) × (Nat → Int32) → Prop) : Prop :=
  False
def v_ND_type_55 (I0 : Nat → Int32) (n1 : Nat) (f1 : Nat → Int32) (x1 : Int32) (x2 : Int32) (x3 : Int32) (k5 : Int32 → Int32 → Prop) (Z : Int32 → (Nat → Int32) × (Nat → Int32) → Prop) : Prop :=
  (k5 x2 (x3 + (-8 : Int32)))
def v_ND_type_47 (I0 : Nat → Int32) (n1 : Nat) (f1 : Nat → Int32) (x1 : Int32) (x2 : Int32) (x3 : Int32) (x4 : Int32) (k5 : Int32 → Int32 → Prop) (Z : Int32 → (Nat → Int32) × (Nat → Int32) → Prop) : Prop :=
  ((x4 = 0 → (v_ND_type_55 I0 n1 f1 x1 x2 x3 k5 Z)) ∧ (¬ x4 = 0 → (v_ND_type_55 I0 n1 f1 x1 (x2 + (1 : Int32)) x3 k5 Z)))
def v_ND_type_144 (I0 : Nat → Int32) (n1 : Nat) (f1 : Nat → Int32) (x1 : Int32) (x3 : Int32) (k85 : (Nat → Int32) → (Nat → Int32) → Int32 → Prop) (Z : Int32 → (Nat → Int32) × (Nat → Int32) → Prop) : Prop :=
  (k85 I0 f1 (x3 + (-8 : Int32)))
def v_ND_type_85 (n1 : Nat) (x1 : Int32)  (Z : Int32 → (Nat → Int32) × (Nat → Int32) → Prop) : Nat → (Nat → Int32) → (Nat → Int32) → Int32 → Prop
  | 0 => fun _ _ _ => False
  | N + 1 => fun I0 f1 x3 => ((x3 < 0 → (Z (I0 1) (I0, f1))) ∧ (¬ x3 < 0 → (∀ y_2 : Int32, y_2 = ((x1.toUInt32 >>> (x3.toUInt32 &&& Int32.toUInt32 31)).toInt32 &&& (255 : Int32)) → ((y_2 = 0 → (v_ND_type_144 I0 n1 f1 x1 x3 (v_ND_type_85 n1 x1  Z N) Z)) ∧ (¬ y_2 = 0 → (((I0 1) < 0 → (v_ND_type_144 I0 n1 f1 x1 x3 (v_ND_type_85 n1 x1  Z N) Z)) ∧ (¬ (I0 1) < 0 → (((nI n1) ≤ (I0 1) → (v_ND_type_144 I0 n1 f1 x1 x3 (v_ND_type_85 n1 x1  Z N) Z)) ∧ (¬ (nI n1) ≤ (I0 1) → (vp_in (I0 1) n1 ∧ (v_ND_type_144 (zu I0 1 ((I0 1) + (1 : Int32))) n1 (upd f1 (I0 1).toNatClampNeg (vp_nar .char (y_2.toUInt32 % 65536).toInt32)) x1 x3 (v_ND_type_85 n1 x1  Z N) Z)))))))))))
def v_ND_type_5 (I0 : Nat → Int32) (n1 : Nat) (f1 : Nat → Int32) (x1 : Int32)  (Z : Int32 → (Nat → Int32) × (Nat → Int32) → Prop) : Nat → Int32 → Int32 → Prop
  | 0 => fun _ _ => False
  | N + 1 => fun x2 x3 => ((x3 < 0 → ((((I0 1) + x2) ≤ (64 : Int32) → (∃ Nx, v_ND_type_85 n1 x1  Z Nx I0 f1 (24 : Int32))) ∧ (¬ ((I0 1) + x2) ≤ (64 : Int32) → False))) ∧ (¬ x3 < 0 → (∀ y_3 : Int32, y_3 = ((x1.toUInt32 >>> (x3.toUInt32 &&& Int32.toUInt32 31)).toInt32 &&& (255 : Int32)) → ((y_3 = 0 → (v_ND_type_47 I0 n1 f1 x1 x2 x3 y_3 (v_ND_type_5 I0 n1 f1 x1  Z N) Z)) ∧ (¬ y_3 = 0 → ((y_3 < (32 : Int32) → (v_ND_type_37 I0 n1 f1  Z)) ∧ (¬ y_3 < (32 : Int32) → ((y_3 ≤ (126 : Int32) → (v_ND_type_47 I0 n1 f1 x1 x2 x3 y_3 (v_ND_type_5 I0 n1 f1 x1  Z N) Z)) ∧ (¬ y_3 ≤ (126 : Int32) → (v_ND_type_37 I0 n1 f1  Z))))))))))
def v_ND_type_0 (I0 : Nat → Int32) (n1 : Nat) (f1 : Nat → Int32) (x1 : Int32)  (Z : Int32 → (Nat → Int32) × (Nat → Int32) → Prop) : Prop :=
  (∃ Nx, v_ND_type_5 I0 n1 f1 x1  Z Nx (0 : Int32) (24 : Int32))
def v_ND_erase_0 (I0 : Nat → Int32)  (Z : (Nat → Int32) → Prop) : Prop :=
  (Z ((zu I0 1 (0 : Int32))))
def v_Reader_give_0 (I0 : Nat → Int32) (I1 : Nat → Int32) (I2 : Nat → Int32)  (Z : Unit → Prop) : Prop :=
  (Z ())
def v_Code_clear_0 (I0 : Nat → Int32)  (Z : (Nat → Int32) → Prop) : Prop :=
  (Z ((zu (zu I0 1 (0 : Int32)) 4 (0 : Int32))))
def v_Section_clear_0 (I0 : Nat → Int32) (x1 : Int32)  (Z : (Nat → Int32) → Prop) : Prop :=
  (Z ((zu (zu (zu (zu (zu (zu (zu (zu (zu (zu (zu (zu (zu (zu (zu I0 0 (1 : Int32)) 1 x1) 2 x1) 3 (0 : Int32)) 4 (0 : Int32)) 5 (0 : Int32)) 6 (0 : Int32)) 7 (0 : Int32)) 8 (0 : Int32)) 9 (0 : Int32)) 10 (0 : Int32)) 11 (0 : Int32)) 12 (0 : Int32)) 13 (0 : Int32)) 14 (0 : Int32))))
def v_Code_open_43 (I0 : Nat → Int32) (I2 : Nat → Int32) (I3 : Nat → Int32) (I4 : Nat → Int32) (I5 : Nat → Int32) (x1 : Nat)  (Z : Option Nat → (Nat → Int32) × (Nat → Int32) × (Nat → Int32) × (Nat → Int32) × (Nat → Int32) → Prop) : Prop :=
  (Z (some x1) ((zu I0 1 ((I0 1) + (1 : Int32))), I2, I3, I4, I5))
def v_Code_open_0 (I0 : Nat → Int32) (I2 : Nat → Int32) (I3 : Nat → Int32) (I4 : Nat → Int32) (I5 : Nat → Int32)  (Z : Option Nat → (Nat → Int32) × (Nat → Int32) × (Nat → Int32) × (Nat → Int32) × (Nat → Int32) → Prop) : Prop :=
  (((I0 1) < 0 → (Z none (I0, I2, I3, I4, I5))) ∧ (¬ (I0 1) < 0 → (((I0 1) < (nI 4) → (vp_in (I0 1) 4 ∧ (∀ j_4 : Nat, j_4 = (I0 1).toNatClampNeg → (j_4 < 4 ∧ (j_4 = 0 → (v_Section_clear_0 I2 (I0 4) (fun u => (v_Code_open_43 I0 u I3 I4 I5 0  Z)))) ∧ (j_4 = 1 → (v_Section_clear_0 I3 (I0 4) (fun u => (v_Code_open_43 I0 I2 u I4 I5 1  Z)))) ∧ (j_4 = 2 → (v_Section_clear_0 I4 (I0 4) (fun u => (v_Code_open_43 I0 I2 I3 u I5 2  Z)))) ∧ (j_4 = 3 → (v_Section_clear_0 I5 (I0 4) (fun u => (v_Code_open_43 I0 I2 I3 I4 u 3  Z)))))))) ∧ (¬ (I0 1) < (nI 4) → (Z none (I0, I2, I3, I4, I5))))))
def v_Reader_colour_0 (x0 : Int32)  (Z : Nat → Unit → Prop) : Prop :=
  ((x0 = (0 : Int32) → (Z 0 ())) ∧ (¬ x0 = (0 : Int32) → ((x0 = (1 : Int32) → (Z 1 ())) ∧ (¬ x0 = (1 : Int32) → ((x0 = (2 : Int32) → (Z 2 ())) ∧ (¬ x0 = (2 : Int32) → ((x0 = (3 : Int32) → (Z 3 ())) ∧ (¬ x0 = (3 : Int32) → ((x0 = (4 : Int32) → (Z 4 ())) ∧ (¬ x0 = (4 : Int32) → ((x0 = (5 : Int32) → (Z 5 ())) ∧ (¬ x0 = (5 : Int32) → ((x0 = (6 : Int32) → (Z 6 ())) ∧ (¬ x0 = (6 : Int32) → (Z 7 ())))))))))))))))
def v_Reader_small_31 (I0 : Nat → Int32) (n1 : Nat) (f1 : Nat → Int32) (s0 : Int32)  (Z : Int32 → Unit → Prop) : Prop :=
  ((s0 < (65 : Int32) → (zc s0 ∧ Z s0 ())) ∧ (¬ s0 < (65 : Int32) → (((90 : Int32) < s0 → (zc s0 ∧ Z s0 ())) ∧ (¬ (90 : Int32) < s0 → (zc ((s0 + (32 : Int32)).toUInt32 % 65536).toInt32 ∧ Z ((s0 + (32 : Int32)).toUInt32 % 65536).toInt32 ())))))
def v_Reader_small_30 (I0 : Nat → Int32) (n1 : Nat) (f1 : Nat → Int32)  (Z : Int32 → Unit → Prop) : Prop :=
  (v_Reader_small_31 I0 n1 f1 (0 : Int32)  Z)
def v_Reader_small_0 (I0 : Nat → Int32) (n1 : Nat) (f1 : Nat → Int32) (x1 : Int32)  (Z : Int32 → Unit → Prop) : Prop :=
  ((x1 < 0 → (v_Reader_small_30 I0 n1 f1  Z)) ∧ (¬ x1 < 0 → (((I0 1) ≤ x1 → (v_Reader_small_30 I0 n1 f1  Z)) ∧ (¬ (I0 1) ≤ x1 → (((nI n1) ≤ x1 → (v_Reader_small_30 I0 n1 f1  Z)) ∧ (¬ (nI n1) ≤ x1 → (vp_in x1 n1 ∧ (v_Reader_small_31 I0 n1 f1 (f1 x1.toNatClampNeg)  Z))))))))
def v_S_isLatin1_0 (x0 : Nat)  (Z : Int32 → Unit → Prop) : Prop :=
  (x0 < nZS ∧ (Z (1 : Int32) ()))
def v_P_checkIndex_9 (x0 : Int32) (x1 : Int32)  (Z : Int32 → Unit → Prop) : Prop :=
  False
def v_P_checkIndex_0 (x0 : Int32) (x1 : Int32)  (Z : Int32 → Unit → Prop) : Prop :=
  ((x0 < 0 → (v_P_checkIndex_9 x0 x1  Z)) ∧ (¬ x0 < 0 → ((x0 < x1 → (Z x0 ())) ∧ (¬ x0 < x1 → (v_P_checkIndex_9 x0 x1  Z)))))
def v_S_checkIndex_8 (s0 : Int32)  (Z : Unit → Prop) : Prop :=
  (Z ())
def v_S_checkIndex_0 (x0 : Int32) (x1 : Int32)  (Z : Unit → Prop) : Prop :=
  (v_P_checkIndex_0 x0 x1 (fun r u => (v_S_checkIndex_8 r  Z)))
def v_SL_charAt_6 (x0 : Nat) (x1 : Int32)  (Z : Int32 → Unit → Prop) : Prop :=
  (x0 < nZS ∧ (vp_in x1 (zsn x0) ∧ (zc (((zsb x0 x1.toNatClampNeg) &&& (255 : Int32)).toUInt32 % 65536).toInt32 ∧ Z (((zsb x0 x1.toNatClampNeg) &&& (255 : Int32)).toUInt32 % 65536).toInt32 ())))
def v_SL_charAt_0 (x0 : Nat) (x1 : Int32)  (Z : Int32 → Unit → Prop) : Prop :=
  (x0 < nZS ∧ (v_S_checkIndex_0 x1 (nI (zsn x0)) (fun u => (v_SL_charAt_6 x0 x1  Z))))
def v_S_charAt_15 (s0 : Int32)  (Z : Int32 → Unit → Prop) : Prop :=
  (zc s0 ∧ Z s0 ())
def v_S_charAt_4 (x0 : Nat) (x1 : Int32) (s0 : Int32)  (Z : Int32 → Unit → Prop) : Prop :=
  ((s0 = 0 → (x0 < nZS ∧ False)) ∧ (¬ s0 = 0 → (x0 < nZS ∧ (v_SL_charAt_0 x0 x1 (fun r u => (v_S_charAt_15 r  Z))))))
def v_S_charAt_0 (x0 : Nat) (x1 : Int32)  (Z : Int32 → Unit → Prop) : Prop :=
  (x0 < nZS ∧ (v_S_isLatin1_0 x0 (fun r u => (v_S_charAt_4 x0 x1 r  Z))))
def v_S_coder_0 (x0 : Nat)  (Z : Int32 → Unit → Prop) : Prop :=
  (x0 < nZS ∧ (Z (0 : Int32) ()))
def v_S_length_9 (s0 : Int32) (s1 : Int32)  (Z : Int32 → Unit → Prop) : Prop :=
  (Z (s0 >>> (s1 &&& 31)) ())
def v_S_length_0 (x0 : Nat)  (Z : Int32 → Unit → Prop) : Prop :=
  (x0 < nZS ∧ (x0 < nZS ∧ (x0 < nZS ∧ (v_S_coder_0 x0 (fun r u => (v_S_length_9 (nI (zsn x0)) r  Z))))))
def v_Reader_goesOn_22 (I0 : Nat → Int32) (n1 : Nat) (f1 : Nat → Int32) (x1 : Int32) (x2 : Nat) (x3 : Int32) (s0 : Int32) (s1 : Int32) (k2 : Int32 → Prop) (Z : Int32 → Unit → Prop) : Prop :=
  ((s0 = s1 → (k2 (x3 + (1 : Int32)))) ∧ (¬ s0 = s1 → (Z (0 : Int32) ())))
def v_Reader_goesOn_17 (I0 : Nat → Int32) (n1 : Nat) (f1 : Nat → Int32) (x1 : Int32) (x2 : Nat) (x3 : Int32) (s0 : Int32) (k2 : Int32 → Prop) (Z : Int32 → Unit → Prop) : Prop :=
  (x2 < nZS ∧ (v_S_charAt_0 x2 x3 (fun r u => (v_Reader_goesOn_22 I0 n1 f1 x1 x2 x3 s0 r k2 Z))))
def v_Reader_goesOn_7 (I0 : Nat → Int32) (n1 : Nat) (f1 : Nat → Int32) (x1 : Int32) (x2 : Nat) (x3 : Int32) (s0 : Int32) (s1 : Int32) (k2 : Int32 → Prop) (Z : Int32 → Unit → Prop) : Prop :=
  ((s1 ≤ s0 → (Z (1 : Int32) ())) ∧ (¬ s1 ≤ s0 → (v_Reader_small_0 I0 n1 f1 (x1 + x3) (fun r u => (v_Reader_goesOn_17 I0 n1 f1 x1 x2 x3 r k2 Z)))))
def v_Reader_goesOn_2 (I0 : Nat → Int32) (n1 : Nat) (f1 : Nat → Int32) (x1 : Int32) (x2 : Nat)  (Z : Int32 → Unit → Prop) : Nat → Int32 → Prop
  | 0 => fun _ => False
  | N + 1 => fun x3 => (x2 < nZS ∧ (v_S_length_0 x2 (fun r u => (v_Reader_goesOn_7 I0 n1 f1 x1 x2 x3 x3 r (v_Reader_goesOn_2 I0 n1 f1 x1 x2  Z N) Z))))
def v_Reader_goesOn_0 (I0 : Nat → Int32) (n1 : Nat) (f1 : Nat → Int32) (x1 : Int32) (x2 : Nat)  (Z : Int32 → Unit → Prop) : Prop :=
  (∃ Nx, v_Reader_goesOn_2 I0 n1 f1 x1 x2  Z Nx (0 : Int32))
def v_Reader_colourLength_26 (I0 : Nat → Int32) (n1 : Nat) (f1 : Nat → Int32) (s0 : Int32)  (Z : Int32 → Unit → Prop) : Prop :=
  (Z s0 ())
def v_Reader_colourLength_19 (I0 : Nat → Int32) (n1 : Nat) (f1 : Nat → Int32) (x1 : Int32) (x2 : Int32) (x3 : Nat) (s0 : Int32) (k2 : Int32 → Prop) (Z : Int32 → Unit → Prop) : Prop :=
  ((s0 = 0 → (k2 (x2 + (1 : Int32)))) ∧ (¬ s0 = 0 → (x3 < nZS ∧ (v_S_length_0 x3 (fun r u => (v_Reader_colourLength_26 I0 n1 f1 r  Z))))))
def v_Reader_colourLength_12 (I0 : Nat → Int32) (n1 : Nat) (f1 : Nat → Int32) (x1 : Int32) (x2 : Int32) (s0 : Nat) (k2 : Int32 → Prop) (Z : Int32 → Unit → Prop) : Prop :=
  (v_Reader_goesOn_0 I0 n1 f1 x1 s0 (fun r u => (v_Reader_colourLength_19 I0 n1 f1 x1 x2 s0 r k2 Z)))
def v_Reader_colourLength_2 (I0 : Nat → Int32) (n1 : Nat) (f1 : Nat → Int32) (x1 : Int32)  (Z : Int32 → Unit → Prop) : Nat → Int32 → Prop
  | 0 => fun _ => False
  | N + 1 => fun x2 => (((8 : Int32) ≤ x2 → (Z (0 : Int32) ())) ∧ (¬ (8 : Int32) ≤ x2 → (v_Reader_colour_0 x2 (fun r u => (v_Reader_colourLength_12 I0 n1 f1 x1 x2 r (v_Reader_colourLength_2 I0 n1 f1 x1  Z N) Z)))))
def v_Reader_colourLength_0 (I0 : Nat → Int32) (n1 : Nat) (f1 : Nat → Int32) (x1 : Int32)  (Z : Int32 → Unit → Prop) : Prop :=
  (∃ Nx, v_Reader_colourLength_2 I0 n1 f1 x1  Z Nx (0 : Int32))
def v_SL_canEncode_0 (x0 : Int32)  (Z : Int32 → Unit → Prop) : Prop :=
  ((x0 < 0 → (Z (0 : Int32) ())) ∧ (¬ x0 < 0 → (((255 : Int32) < x0 → (Z (0 : Int32) ())) ∧ (¬ (255 : Int32) < x0 → (Z (1 : Int32) ())))))
def v_SL_indexOfChar_7 (x0 : Nat) (x3 : Int32) (x4 : Int32)  (Z : Int32 → Unit → Prop) : Nat → Int32 → Prop
  | 0 => fun _ => False
  | N + 1 => fun x5 => ((x3 ≤ x5 → (Z (-1 : Int32) ())) ∧ (¬ x3 ≤ x5 → (x0 < nZS ∧ (vp_in x5 (zsn x0) ∧ ((¬ (zsb x0 x5.toNatClampNeg) = x4 → ((v_SL_indexOfChar_7 x0 x3 x4  Z N) (x5 + (1 : Int32)))) ∧ ((zsb x0 x5.toNatClampNeg) = x4 → (Z x5 ())))))))
def v_SL_indexOfChar_0 (x0 : Nat) (x1 : Int32) (x2 : Int32) (x3 : Int32)  (Z : Int32 → Unit → Prop) : Prop :=
  (∃ Nx, v_SL_indexOfChar_7 x0 x3 x1.toInt8.toInt32  Z Nx x2)
def v_SL_indexOf_36 (s0 : Int32)  (Z : Int32 → Unit → Prop) : Prop :=
  (Z s0 ())
def v_SL_indexOf_4 (x0 : Nat) (x1 : Int32) (x2 : Int32) (x3 : Int32) (s0 : Int32)  (Z : Int32 → Unit → Prop) : Prop :=
  ((¬ s0 = 0 → (x0 < nZS ∧ (((zmax x2 (0 : Int32)) < (zmin x3 (nI (zsn x0))) → (v_SL_indexOfChar_0 x0 x1 (zmax x2 (0 : Int32)) (zmin x3 (nI (zsn x0))) (fun r u => (v_SL_indexOf_36 r  Z)))) ∧ (¬ (zmax x2 (0 : Int32)) < (zmin x3 (nI (zsn x0))) → (Z (-1 : Int32) ()))))) ∧ (s0 = 0 → (Z (-1 : Int32) ())))
def v_SL_indexOf_0 (x0 : Nat) (x1 : Int32) (x2 : Int32) (x3 : Int32)  (Z : Int32 → Unit → Prop) : Prop :=
  (v_SL_canEncode_0 x1 (fun r u => (v_SL_indexOf_4 x0 x1 x2 x3 r  Z)))
def v_S_indexOf1_20 (s0 : Int32)  (Z : Int32 → Unit → Prop) : Prop :=
  (Z s0 ())
def v_S_indexOf1_17 (s0 : Nat) (s1 : Int32) (s2 : Int32) (s3 : Int32)  (Z : Int32 → Unit → Prop) : Prop :=
  (v_SL_indexOf_0 s0 s1 s2 s3 (fun r u => (v_S_indexOf1_20 r  Z)))
def v_S_indexOf1_33 (s0 : Nat) (s1 : Int32) (s2 : Int32) (s3 : Int32)  (Z : Int32 → Unit → Prop) : Prop :=
  False
def v_S_indexOf1_4 (x0 : Nat) (x1 : Int32) (x2 : Int32) (s0 : Int32)  (Z : Int32 → Unit → Prop) : Prop :=
  ((s0 = 0 → (x0 < nZS ∧ (x0 < nZS ∧ (v_S_length_0 x0 (fun r u => (v_S_indexOf1_33 x0 x1 x2 r  Z)))))) ∧ (¬ s0 = 0 → (x0 < nZS ∧ (x0 < nZS ∧ (v_S_length_0 x0 (fun r u => (v_S_indexOf1_17 x0 x1 x2 r  Z)))))))
def v_S_indexOf1_0 (x0 : Nat) (x1 : Int32) (x2 : Int32)  (Z : Int32 → Unit → Prop) : Prop :=
  (x0 < nZS ∧ (v_S_isLatin1_0 x0 (fun r u => (v_S_indexOf1_4 x0 x1 x2 r  Z))))
def v_S_indexOf0_6 (s0 : Int32)  (Z : Int32 → Unit → Prop) : Prop :=
  (Z s0 ())
def v_S_indexOf0_0 (x0 : Nat) (x1 : Int32)  (Z : Int32 → Unit → Prop) : Prop :=
  (x0 < nZS ∧ (v_S_indexOf1_0 x0 x1 (0 : Int32) (fun r u => (v_S_indexOf0_6 r  Z))))
def v_Reader_isOwnLiteral_11 (s0 : Int32)  (Z : Int32 → Unit → Prop) : Prop :=
  ((s0 < 0 → (Z (0 : Int32) ())) ∧ (¬ s0 < 0 → (Z (1 : Int32) ())))
def v_Reader_isOwnLiteral_0 (x0 : Int32)  (Z : Int32 → Unit → Prop) : Prop :=
  ((x0 = 0 → (Z (0 : Int32) ())) ∧ (¬ x0 = 0 → (8 < nZS ∧ (v_S_indexOf0_0 8 x0 (fun r u => (v_Reader_isOwnLiteral_11 r  Z))))))
def v_Reader_sign_0 (I0 : Nat → Int32) (n1 : Nat) (f1 : Nat → Int32) (x1 : Int32)  (Z : Int32 → Unit → Prop) : Prop :=
  ((x1 < 0 → (Z (0 : Int32) ())) ∧ (¬ x1 < 0 → (((I0 1) ≤ x1 → (Z (0 : Int32) ())) ∧ (¬ (I0 1) ≤ x1 → (((nI n1) ≤ x1 → (Z (0 : Int32) ())) ∧ (¬ (nI n1) ≤ x1 → (vp_in x1 n1 ∧ (zc (f1 x1.toNatClampNeg) ∧ Z (f1 x1.toNatClampNeg) ()))))))))
def v_Reader_quotesLength_17 (I0 : Nat → Int32) (n1 : Nat) (f1 : Nat → Int32) (x1 : Int32) (x2 : Int32) (s0 : Int32) (k4 : Int32 → Prop) (Z : Int32 → Unit → Prop) : Prop :=
  ((¬ s0 = (34 : Int32) → (k4 (x2 + (1 : Int32)))) ∧ (s0 = (34 : Int32) → (Z ((x2 - x1) + (1 : Int32)) ())))
def v_Reader_quotesLength_4 (I0 : Nat → Int32) (n1 : Nat) (f1 : Nat → Int32) (x1 : Int32)  (Z : Int32 → Unit → Prop) : Nat → Int32 → Prop
  | 0 => fun _ => False
  | N + 1 => fun x2 => (((I0 1) ≤ x2 → (Z (0 : Int32) ())) ∧ (¬ (I0 1) ≤ x2 → (v_Reader_sign_0 I0 n1 f1 x2 (fun r u => (v_Reader_quotesLength_17 I0 n1 f1 x1 x2 r (v_Reader_quotesLength_4 I0 n1 f1 x1  Z N) Z)))))
def v_Reader_quotesLength_0 (I0 : Nat → Int32) (n1 : Nat) (f1 : Nat → Int32) (x1 : Int32)  (Z : Int32 → Unit → Prop) : Prop :=
  (∃ Nx, v_Reader_quotesLength_4 I0 n1 f1 x1  Z Nx (x1 + (1 : Int32)))
def v_Reader_commonLength_61 (I0 : Nat → Int32) (n1 : Nat) (f1 : Nat → Int32) (s0 : Int32)  (Z : Int32 → Unit → Prop) : Prop :=
  (Z s0 ())
def v_Reader_commonLength_83 (I0 : Nat → Int32) (n1 : Nat) (f1 : Nat → Int32) (s0 : Int32)  (Z : Int32 → Unit → Prop) : Prop :=
  (Z s0 ())
def v_Reader_commonLength_88 (I0 : Nat → Int32) (n1 : Nat) (f1 : Nat → Int32) (s0 : Int32)  (Z : Int32 → Unit → Prop) : Prop :=
  ((s0 = 0 → (Z (0 : Int32) ())) ∧ (¬ s0 = 0 → (Z (1 : Int32) ())))
def v_Reader_commonLength_5 (I0 : Nat → Int32) (n1 : Nat) (f1 : Nat → Int32) (x1 : Int32) (s0 : Int32)  (Z : Int32 → Unit → Prop) : Prop :=
  ((s0 = (34 : Int32) → (v_Reader_quotesLength_0 I0 n1 f1 x1 (fun r u => (v_Reader_commonLength_61 I0 n1 f1 r  Z)))) ∧ (¬ s0 = (34 : Int32) → ((s0 = (42 : Int32) → (((I0 1) ≤ (x1 + (1 : Int32)) → (Z (0 : Int32) ())) ∧ (¬ (I0 1) ≤ (x1 + (1 : Int32)) → (Z (2 : Int32) ())))) ∧ (¬ s0 = (42 : Int32) → ((s0 = (91 : Int32) → (v_Reader_colourLength_0 I0 n1 f1 x1 (fun r u => (v_Reader_commonLength_83 I0 n1 f1 r  Z)))) ∧ (¬ s0 = (91 : Int32) → ((s0 = (92 : Int32) → (((I0 1) ≤ (x1 + (1 : Int32)) → (Z (0 : Int32) ())) ∧ (¬ (I0 1) ≤ (x1 + (1 : Int32)) → (Z (2 : Int32) ())))) ∧ (¬ s0 = (92 : Int32) → ((s0 = (95 : Int32) → (((I0 1) ≤ (x1 + (1 : Int32)) → (Z (0 : Int32) ())) ∧ (¬ (I0 1) ≤ (x1 + (1 : Int32)) → (Z (2 : Int32) ())))) ∧ (¬ s0 = (95 : Int32) → (v_Reader_isOwnLiteral_0 s0 (fun r u => (v_Reader_commonLength_88 I0 n1 f1 r  Z)))))))))))))
def v_Reader_commonLength_0 (I0 : Nat → Int32) (n1 : Nat) (f1 : Nat → Int32) (x1 : Int32)  (Z : Int32 → Unit → Prop) : Prop :=
  (v_Reader_sign_0 I0 n1 f1 x1 (fun r u => (v_Reader_commonLength_5 I0 n1 f1 x1 r  Z)))
def v_Reader_rowLength_20 (I0 : Nat → Int32) (n1 : Nat) (f1 : Nat → Int32) (x1 : Int32) (x2 : Int32) (s0 : Int32) (s1 : Int32) (k2 : Int32 → Prop) (Z : Int32 → Unit → Prop) : Prop :=
  ((¬ s0 = s1 → (Z x2 ())) ∧ (s0 = s1 → (k2 (x2 + (1 : Int32)))))
def v_Reader_rowLength_15 (I0 : Nat → Int32) (n1 : Nat) (f1 : Nat → Int32) (x1 : Int32) (x2 : Int32) (s0 : Int32) (k2 : Int32 → Prop) (Z : Int32 → Unit → Prop) : Prop :=
  (v_Reader_small_0 I0 n1 f1 x1 (fun r u => (v_Reader_rowLength_20 I0 n1 f1 x1 x2 s0 r k2 Z)))
def v_Reader_rowLength_2 (I0 : Nat → Int32) (n1 : Nat) (f1 : Nat → Int32) (x1 : Int32)  (Z : Int32 → Unit → Prop) : Nat → Int32 → Prop
  | 0 => fun _ => False
  | N + 1 => fun x2 => (((64 : Int32) ≤ x2 → (Z x2 ())) ∧ (¬ (64 : Int32) ≤ x2 → (v_Reader_small_0 I0 n1 f1 (x1 + x2) (fun r u => (v_Reader_rowLength_15 I0 n1 f1 x1 x2 r (v_Reader_rowLength_2 I0 n1 f1 x1  Z N) Z)))))
def v_Reader_rowLength_0 (I0 : Nat → Int32) (n1 : Nat) (f1 : Nat → Int32) (x1 : Int32)  (Z : Int32 → Unit → Prop) : Prop :=
  (∃ Nx, v_Reader_rowLength_2 I0 n1 f1 x1  Z Nx (1 : Int32))
def v_Reader_bracketRow_55 (I0 : Nat → Int32) (n1 : Nat) (f1 : Nat → Int32) (x3 : Int32) (s0 : Int32)  (Z : Int32 → Unit → Prop) : Prop :=
  ((¬ s0 = (93 : Int32) → (Z (0 : Int32) ())) ∧ (s0 = (93 : Int32) → (Z x3 ())))
def v_Reader_bracketRow_45 (I0 : Nat → Int32) (n1 : Nat) (f1 : Nat → Int32) (x1 : Int32) (s0 : Int32)  (Z : Int32 → Unit → Prop) : Prop :=
  (v_Reader_sign_0 I0 n1 f1 ((x1 + (1 : Int32)) + s0) (fun r u => (v_Reader_bracketRow_55 I0 n1 f1 s0 r  Z)))
def v_Reader_bracketRow_38 (I0 : Nat → Int32) (n1 : Nat) (f1 : Nat → Int32) (x1 : Int32)  (Z : Int32 → Unit → Prop) : Prop :=
  (v_Reader_rowLength_0 I0 n1 f1 (x1 + (1 : Int32)) (fun r u => (v_Reader_bracketRow_45 I0 n1 f1 x1 r  Z)))
def v_Reader_bracketRow_13 (I0 : Nat → Int32) (n1 : Nat) (f1 : Nat → Int32) (x1 : Int32) (x2 : Int32) (s0 : Int32)  (Z : Int32 → Unit → Prop) : Prop :=
  ((¬ s0 = (91 : Int32) → (Z (0 : Int32) ())) ∧ (s0 = (91 : Int32) → ((x2 = (104 : Int32) → (v_Reader_bracketRow_38 I0 n1 f1 x1  Z)) ∧ (¬ x2 = (104 : Int32) → ((x2 = (109 : Int32) → (v_Reader_bracketRow_38 I0 n1 f1 x1  Z)) ∧ (¬ x2 = (109 : Int32) → ((x2 = (115 : Int32) → (v_Reader_bracketRow_38 I0 n1 f1 x1  Z)) ∧ (¬ x2 = (115 : Int32) → (Z (0 : Int32) ())))))))))
def v_Reader_bracketRow_7 (I0 : Nat → Int32) (n1 : Nat) (f1 : Nat → Int32) (x1 : Int32) (s0 : Int32)  (Z : Int32 → Unit → Prop) : Prop :=
  (v_Reader_sign_0 I0 n1 f1 x1 (fun r u => (v_Reader_bracketRow_13 I0 n1 f1 x1 s0 r  Z)))
def v_Reader_bracketRow_0 (I0 : Nat → Int32) (n1 : Nat) (f1 : Nat → Int32) (x1 : Int32)  (Z : Int32 → Unit → Prop) : Prop :=
  (v_Reader_small_0 I0 n1 f1 (x1 + (1 : Int32)) (fun r u => (v_Reader_bracketRow_7 I0 n1 f1 x1 r  Z)))
def v_Reader_halfDayLength_21 (I0 : Nat → Int32) (n1 : Nat) (f1 : Nat → Int32) (s0 : Int32)  (Z : Int32 → Unit → Prop) : Prop :=
  ((s0 = 0 → (Z (0 : Int32) ())) ∧ (¬ s0 = 0 → (Z (3 : Int32) ())))
def v_Reader_halfDayLength_8 (I0 : Nat → Int32) (n1 : Nat) (f1 : Nat → Int32) (x1 : Int32) (s0 : Int32)  (Z : Int32 → Unit → Prop) : Prop :=
  ((s0 = 0 → (v_Reader_goesOn_0 I0 n1 f1 x1 11 (fun r u => (v_Reader_halfDayLength_21 I0 n1 f1 r  Z)))) ∧ (¬ s0 = 0 → (Z (5 : Int32) ())))
def v_Reader_halfDayLength_0 (I0 : Nat → Int32) (n1 : Nat) (f1 : Nat → Int32) (x1 : Int32)  (Z : Int32 → Unit → Prop) : Prop :=
  (v_Reader_goesOn_0 I0 n1 f1 x1 10 (fun r u => (v_Reader_halfDayLength_8 I0 n1 f1 x1 r  Z)))
def v_Reader_isDateLetter_0 (x0 : Int32)  (Z : Int32 → Unit → Prop) : Prop :=
  ((x0 = (121 : Int32) → (Z (1 : Int32) ())) ∧ (¬ x0 = (121 : Int32) → ((x0 = (109 : Int32) → (Z (1 : Int32) ())) ∧ (¬ x0 = (109 : Int32) → ((x0 = (100 : Int32) → (Z (1 : Int32) ())) ∧ (¬ x0 = (100 : Int32) → ((x0 = (104 : Int32) → (Z (1 : Int32) ())) ∧ (¬ x0 = (104 : Int32) → ((¬ x0 = (115 : Int32) → (Z (0 : Int32) ())) ∧ (x0 = (115 : Int32) → (Z (1 : Int32) ())))))))))))
def v_Reader_isPlace_0 (x0 : Int32)  (Z : Int32 → Unit → Prop) : Prop :=
  ((x0 = (48 : Int32) → (Z (1 : Int32) ())) ∧ (¬ x0 = (48 : Int32) → ((x0 = (35 : Int32) → (Z (1 : Int32) ())) ∧ (¬ x0 = (35 : Int32) → ((¬ x0 = (63 : Int32) → (Z (0 : Int32) ())) ∧ (x0 = (63 : Int32) → (Z (1 : Int32) ())))))))
def v_Reader_kindMadeAt_52 (I0 : Nat → Int32) (n1 : Nat) (f1 : Nat → Int32) (s0 : Int32)  (Z : Int32 → Unit → Prop) : Prop :=
  ((s0 = 0 → (Z (1 : Int32) ())) ∧ (¬ s0 = 0 → (Z (5 : Int32) ())))
def v_Reader_kindMadeAt_47 (I0 : Nat → Int32) (n1 : Nat) (f1 : Nat → Int32)  (Z : Int32 → Unit → Prop) : Prop :=
  (v_Reader_kindMadeAt_52 I0 n1 f1 (1 : Int32)  Z)
def v_Reader_kindMadeAt_44 (I0 : Nat → Int32) (n1 : Nat) (f1 : Nat → Int32) (s0 : Int32)  (Z : Int32 → Unit → Prop) : Prop :=
  ((s0 ≤ 0 → (v_Reader_kindMadeAt_52 I0 n1 f1 (0 : Int32)  Z)) ∧ (¬ s0 ≤ 0 → (v_Reader_kindMadeAt_47 I0 n1 f1  Z)))
def v_Reader_kindMadeAt_36 (I0 : Nat → Int32) (n1 : Nat) (f1 : Nat → Int32) (x1 : Int32) (s0 : Int32)  (Z : Int32 → Unit → Prop) : Prop :=
  ((0 < s0 → (v_Reader_kindMadeAt_47 I0 n1 f1  Z)) ∧ (¬ 0 < s0 → (v_Reader_halfDayLength_0 I0 n1 f1 x1 (fun r u => (v_Reader_kindMadeAt_44 I0 n1 f1 r  Z)))))
def v_Reader_kindMadeAt_28 (I0 : Nat → Int32) (n1 : Nat) (f1 : Nat → Int32) (x1 : Int32) (s0 : Int32)  (Z : Int32 → Unit → Prop) : Prop :=
  ((¬ s0 = 0 → (v_Reader_kindMadeAt_47 I0 n1 f1  Z)) ∧ (s0 = 0 → (v_Reader_bracketRow_0 I0 n1 f1 x1 (fun r u => (v_Reader_kindMadeAt_36 I0 n1 f1 x1 r  Z)))))
def v_Reader_kindMadeAt_10 (I0 : Nat → Int32) (n1 : Nat) (f1 : Nat → Int32) (x1 : Int32) (x2 : Int32) (s0 : Int32)  (Z : Int32 → Unit → Prop) : Prop :=
  ((s0 = 0 → ((¬ x2 = (64 : Int32) → (v_Reader_isDateLetter_0 x2 (fun r u => (v_Reader_kindMadeAt_28 I0 n1 f1 x1 r  Z)))) ∧ (x2 = (64 : Int32) → (Z (6 : Int32) ())))) ∧ (¬ s0 = 0 → (Z (2 : Int32) ())))
def v_Reader_kindMadeAt_5 (I0 : Nat → Int32) (n1 : Nat) (f1 : Nat → Int32) (x1 : Int32) (s0 : Int32)  (Z : Int32 → Unit → Prop) : Prop :=
  (v_Reader_isPlace_0 s0 (fun r u => (v_Reader_kindMadeAt_10 I0 n1 f1 x1 s0 r  Z)))
def v_Reader_kindMadeAt_0 (I0 : Nat → Int32) (n1 : Nat) (f1 : Nat → Int32) (x1 : Int32)  (Z : Int32 → Unit → Prop) : Prop :=
  (v_Reader_small_0 I0 n1 f1 x1 (fun r u => (v_Reader_kindMadeAt_5 I0 n1 f1 x1 r  Z)))
def v_Reader_findKind_60 (I0 : Nat → Int32) (I1 : Nat → Int32) (n2 : Nat) (f2 : Nat → Int32) (x2 : Int32) (x3 : Int32) (x4 : Int32) (k15 : (Nat → Int32) → (Nat → Int32) → Int32 → Prop) (Z : (Nat → Int32) × (Nat → Int32) → Prop) : Prop :=
  (k15 I0 I1 (x3 + (zmax (1 : Int32) x4)))
def v_Reader_findKind_37 (I0 : Nat → Int32) (I1 : Nat → Int32) (n2 : Nat) (f2 : Nat → Int32) (x2 : Int32) (x3 : Int32) (x4 : Int32) (s0 : Int32) (k15 : (Nat → Int32) → (Nat → Int32) → Int32 → Prop) (Z : (Nat → Int32) × (Nat → Int32) → Prop) : Prop :=
  ((s0 = (1 : Int32) → (v_Reader_findKind_60 I0 I1 n2 f2 x2 x3 x4 k15 Z)) ∧ (¬ s0 = (1 : Int32) → (Z ((zu I0 4 x3), (zu I1 0 s0)))))
def v_Reader_findKind_25 (I0 : Nat → Int32) (I1 : Nat → Int32) (n2 : Nat) (f2 : Nat → Int32) (x2 : Int32) (x3 : Int32) (s0 : Int32) (k15 : (Nat → Int32) → (Nat → Int32) → Int32 → Prop) (Z : (Nat → Int32) × (Nat → Int32) → Prop) : Prop :=
  ((¬ s0 = 0 → (v_Reader_findKind_60 I0 I1 n2 f2 x2 x3 s0 k15 Z)) ∧ (s0 = 0 → (v_Reader_kindMadeAt_0 I0 n2 f2 x3 (fun r u => (v_Reader_findKind_37 I0 I1 n2 f2 x2 x3 s0 r k15 Z)))))
def v_Reader_findKind_15 (n2 : Nat) (f2 : Nat → Int32) (x2 : Int32)  (Z : (Nat → Int32) × (Nat → Int32) → Prop) : Nat → (Nat → Int32) → (Nat → Int32) → Int32 → Prop
  | 0 => fun _ _ _ => False
  | N + 1 => fun I0 I1 x3 => ((x2 ≤ x3 → (Z (I0, I1))) ∧ (¬ x2 ≤ x3 → (v_Reader_commonLength_0 I0 n2 f2 x3 (fun r u => (v_Reader_findKind_25 I0 I1 n2 f2 x2 x3 r (v_Reader_findKind_15 n2 f2 x2  Z N) Z)))))
def v_Reader_findKind_0 (I0 : Nat → Int32) (I1 : Nat → Int32) (n2 : Nat) (f2 : Nat → Int32) (x1 : Int32) (x2 : Int32)  (Z : (Nat → Int32) × (Nat → Int32) → Prop) : Prop :=
  (∃ Nx, v_Reader_findKind_15 n2 f2 x2  Z Nx (zu I0 4 x2) (zu I1 0 (1 : Int32)) x1)
def v_Code_change_0 (I0 : Nat → Int32) (n1 : Nat) (f1 : Nat → Int32) (x1 : Int32) (x2 : Int32)  (Z : (Nat → Int32) → Prop) : Prop :=
  ((x1 < 0 → (Z (f1))) ∧ (¬ x1 < 0 → (((I0 4) ≤ x1 → (Z (f1))) ∧ (¬ (I0 4) ≤ x1 → (((nI n1) ≤ x1 → (Z (f1))) ∧ (¬ (nI n1) ≤ x1 → (vp_in x1 n1 ∧ (Z ((upd f1 x1.toNatClampNeg x2))))))))))
def v_Code_kind_0 (I0 : Nat → Int32) (n1 : Nat) (f1 : Nat → Int32) (x1 : Int32)  (Z : Int32 → Unit → Prop) : Prop :=
  ((x1 < 0 → (Z (0 : Int32) ())) ∧ (¬ x1 < 0 → (((I0 4) ≤ x1 → (Z (0 : Int32) ())) ∧ (¬ (I0 4) ≤ x1 → (((nI n1) ≤ x1 → (Z (0 : Int32) ())) ∧ (¬ (nI n1) ≤ x1 → (vp_in x1 n1 ∧ (Z (f1 x1.toNatClampNeg) ()))))))))
def v_Code_mark_0 (I0 : Nat → Int32) (n1 : Nat) (f1 : Nat → Int32) (x1 : Int32)  (Z : Int32 → Unit → Prop) : Prop :=
  ((x1 < 0 → (Z (0 : Int32) ())) ∧ (¬ x1 < 0 → (((I0 4) ≤ x1 → (Z (0 : Int32) ())) ∧ (¬ (I0 4) ≤ x1 → (((nI n1) ≤ x1 → (Z (0 : Int32) ())) ∧ (¬ (nI n1) ≤ x1 → (vp_in x1 n1 ∧ (Z (f1 x1.toNatClampNeg) ()))))))))
def v_Reader_isBeforeSeconds_57 (I0 : Nat → Int32) (I1 : Nat → Int32) (I2 : Nat → Int32) (n3 : Nat) (f3 : Nat → Int32) (s0 : Int32)  (Z : Int32 → Unit → Prop) : Prop :=
  ((s0 = (25 : Int32) → (Z (1 : Int32) ())) ∧ (¬ s0 = (25 : Int32) → ((¬ s0 = (28 : Int32) → (Z (0 : Int32) ())) ∧ (s0 = (28 : Int32) → (Z (1 : Int32) ())))))
def v_Reader_isBeforeSeconds_53 (I0 : Nat → Int32) (I1 : Nat → Int32) (I2 : Nat → Int32) (n3 : Nat) (f3 : Nat → Int32) (s0 : Int32)  (Z : Int32 → Unit → Prop) : Prop :=
  (v_Reader_isBeforeSeconds_57 I0 I1 I2 n3 f3 s0  Z)
def v_Reader_isBeforeSeconds_34 (I0 : Nat → Int32) (I1 : Nat → Int32) (I2 : Nat → Int32) (n3 : Nat) (f3 : Nat → Int32) (x2 : Int32)  (Z : Int32 → Unit → Prop) : Prop :=
  (((I1 2) ≤ x2 → (v_Reader_isBeforeSeconds_57 I0 I1 I2 n3 f3 (0 : Int32)  Z)) ∧ (¬ (I1 2) ≤ x2 → (v_Code_kind_0 I2 n3 f3 x2 (fun r u => (v_Reader_isBeforeSeconds_53 I0 I1 I2 n3 f3 r  Z)))))
def v_Reader_isBeforeSeconds_23 (I0 : Nat → Int32) (I1 : Nat → Int32) (I2 : Nat → Int32) (n3 : Nat) (f3 : Nat → Int32) (x2 : Int32) (s0 : Int32) (k4 : Int32 → Prop) (Z : Int32 → Unit → Prop) : Prop :=
  (((20 : Int32) ≤ s0 → (v_Reader_isBeforeSeconds_34 I0 I1 I2 n3 f3 x2  Z)) ∧ (¬ (20 : Int32) ≤ s0 → (k4 (x2 + (1 : Int32)))))
def v_Reader_isBeforeSeconds_4 (I0 : Nat → Int32) (I1 : Nat → Int32) (I2 : Nat → Int32) (n3 : Nat) (f3 : Nat → Int32)  (Z : Int32 → Unit → Prop) : Nat → Int32 → Prop
  | 0 => fun _ => False
  | N + 1 => fun x2 => (((I1 2) ≤ x2 → (v_Reader_isBeforeSeconds_34 I0 I1 I2 n3 f3 x2  Z)) ∧ (¬ (I1 2) ≤ x2 → (v_Code_kind_0 I2 n3 f3 x2 (fun r u => (v_Reader_isBeforeSeconds_23 I0 I1 I2 n3 f3 x2 r (v_Reader_isBeforeSeconds_4 I0 I1 I2 n3 f3  Z N) Z)))))
def v_Reader_isBeforeSeconds_0 (I0 : Nat → Int32) (I1 : Nat → Int32) (I2 : Nat → Int32) (n3 : Nat) (f3 : Nat → Int32) (x1 : Int32)  (Z : Int32 → Unit → Prop) : Prop :=
  (∃ Nx, v_Reader_isBeforeSeconds_4 I0 I1 I2 n3 f3  Z Nx (x1 + (1 : Int32)))
def v_Reader_isBehindHours_57 (I0 : Nat → Int32) (I1 : Nat → Int32) (I2 : Nat → Int32) (n3 : Nat) (f3 : Nat → Int32) (s0 : Int32)  (Z : Int32 → Unit → Prop) : Prop :=
  ((s0 = (23 : Int32) → (Z (1 : Int32) ())) ∧ (¬ s0 = (23 : Int32) → ((¬ s0 = (26 : Int32) → (Z (0 : Int32) ())) ∧ (s0 = (26 : Int32) → (Z (1 : Int32) ())))))
def v_Reader_isBehindHours_53 (I0 : Nat → Int32) (I1 : Nat → Int32) (I2 : Nat → Int32) (n3 : Nat) (f3 : Nat → Int32) (s0 : Int32)  (Z : Int32 → Unit → Prop) : Prop :=
  (v_Reader_isBehindHours_57 I0 I1 I2 n3 f3 s0  Z)
def v_Reader_isBehindHours_34 (I0 : Nat → Int32) (I1 : Nat → Int32) (I2 : Nat → Int32) (n3 : Nat) (f3 : Nat → Int32) (x2 : Int32)  (Z : Int32 → Unit → Prop) : Prop :=
  ((x2 < (I1 1) → (v_Reader_isBehindHours_57 I0 I1 I2 n3 f3 (0 : Int32)  Z)) ∧ (¬ x2 < (I1 1) → (v_Code_kind_0 I2 n3 f3 x2 (fun r u => (v_Reader_isBehindHours_53 I0 I1 I2 n3 f3 r  Z)))))
def v_Reader_isBehindHours_23 (I0 : Nat → Int32) (I1 : Nat → Int32) (I2 : Nat → Int32) (n3 : Nat) (f3 : Nat → Int32) (x2 : Int32) (s0 : Int32) (k4 : Int32 → Prop) (Z : Int32 → Unit → Prop) : Prop :=
  (((20 : Int32) ≤ s0 → (v_Reader_isBehindHours_34 I0 I1 I2 n3 f3 x2  Z)) ∧ (¬ (20 : Int32) ≤ s0 → (k4 (x2 + (-1 : Int32)))))
def v_Reader_isBehindHours_4 (I0 : Nat → Int32) (I1 : Nat → Int32) (I2 : Nat → Int32) (n3 : Nat) (f3 : Nat → Int32)  (Z : Int32 → Unit → Prop) : Nat → Int32 → Prop
  | 0 => fun _ => False
  | N + 1 => fun x2 => ((x2 < (I1 1) → (v_Reader_isBehindHours_34 I0 I1 I2 n3 f3 x2  Z)) ∧ (¬ x2 < (I1 1) → (v_Code_kind_0 I2 n3 f3 x2 (fun r u => (v_Reader_isBehindHours_23 I0 I1 I2 n3 f3 x2 r (v_Reader_isBehindHours_4 I0 I1 I2 n3 f3  Z N) Z)))))
def v_Reader_isBehindHours_0 (I0 : Nat → Int32) (I1 : Nat → Int32) (I2 : Nat → Int32) (n3 : Nat) (f3 : Nat → Int32) (x1 : Int32)  (Z : Int32 → Unit → Prop) : Prop :=
  (∃ Nx, v_Reader_isBehindHours_4 I0 I1 I2 n3 f3  Z Nx (x1 - (1 : Int32)))
def v_Reader_findMinutes_80 (I0 : Nat → Int32) (I1 : Nat → Int32) (I2 : Nat → Int32) (n3 : Nat) (f3 : Nat → Int32) (n4 : Nat) (f4 : Nat → Int32) (x1 : Int32) (k8 : (Nat → Int32) → Int32 → Prop) (Z : (Nat → Int32) → Prop) : Prop :=
  (k8 f3 (x1 + (1 : Int32)))
def v_Reader_findMinutes_70 (I0 : Nat → Int32) (I1 : Nat → Int32) (I2 : Nat → Int32) (n3 : Nat) (f3 : Nat → Int32) (n4 : Nat) (f4 : Nat → Int32) (x1 : Int32) (k8 : (Nat → Int32) → Int32 → Prop) (Z : (Nat → Int32) → Prop) : Prop :=
  (v_Code_change_0 I2 n3 f3 x1 (24 : Int32) (fun u => (v_Reader_findMinutes_80 I0 I1 I2 n3 u n4 f4 x1 k8 Z)))
def v_Reader_findMinutes_67 (I0 : Nat → Int32) (I1 : Nat → Int32) (I2 : Nat → Int32) (n3 : Nat) (f3 : Nat → Int32) (n4 : Nat) (f4 : Nat → Int32) (x1 : Int32) (s0 : Int32) (k8 : (Nat → Int32) → Int32 → Prop) (Z : (Nat → Int32) → Prop) : Prop :=
  ((s0 = 0 → (v_Reader_findMinutes_80 I0 I1 I2 n3 f3 n4 f4 x1 k8 Z)) ∧ (¬ s0 = 0 → (v_Reader_findMinutes_70 I0 I1 I2 n3 f3 n4 f4 x1 k8 Z)))
def v_Reader_findMinutes_59 (I0 : Nat → Int32) (I1 : Nat → Int32) (I2 : Nat → Int32) (n3 : Nat) (f3 : Nat → Int32) (n4 : Nat) (f4 : Nat → Int32) (x1 : Int32) (s0 : Int32) (k8 : (Nat → Int32) → Int32 → Prop) (Z : (Nat → Int32) → Prop) : Prop :=
  ((¬ s0 = 0 → (v_Reader_findMinutes_70 I0 I1 I2 n3 f3 n4 f4 x1 k8 Z)) ∧ (s0 = 0 → (v_Reader_isBeforeSeconds_0 I0 I1 I2 n3 f3 x1 (fun r u => (v_Reader_findMinutes_67 I0 I1 I2 n3 f3 n4 f4 x1 r k8 Z)))))
def v_Reader_findMinutes_49 (I0 : Nat → Int32) (I1 : Nat → Int32) (I2 : Nat → Int32) (n3 : Nat) (f3 : Nat → Int32) (n4 : Nat) (f4 : Nat → Int32) (x1 : Int32) (s0 : Int32) (k8 : (Nat → Int32) → Int32 → Prop) (Z : (Nat → Int32) → Prop) : Prop :=
  ((s0 = 0 → (v_Reader_findMinutes_80 I0 I1 I2 n3 f3 n4 f4 x1 k8 Z)) ∧ (¬ s0 = 0 → (v_Reader_isBehindHours_0 I0 I1 I2 n3 f3 x1 (fun r u => (v_Reader_findMinutes_59 I0 I1 I2 n3 f3 n4 f4 x1 r k8 Z)))))
def v_Reader_findMinutes_48 (I0 : Nat → Int32) (I1 : Nat → Int32) (I2 : Nat → Int32) (n3 : Nat) (f3 : Nat → Int32) (n4 : Nat) (f4 : Nat → Int32) (x1 : Int32) (k8 : (Nat → Int32) → Int32 → Prop) (Z : (Nat → Int32) → Prop) : Prop :=
  (v_Reader_findMinutes_49 I0 I1 I2 n3 f3 n4 f4 x1 (0 : Int32) k8 Z)
def v_Reader_findMinutes_40 (I0 : Nat → Int32) (I1 : Nat → Int32) (I2 : Nat → Int32) (n3 : Nat) (f3 : Nat → Int32) (n4 : Nat) (f4 : Nat → Int32) (x1 : Int32) (s0 : Int32) (k8 : (Nat → Int32) → Int32 → Prop) (Z : (Nat → Int32) → Prop) : Prop :=
  (((2 : Int32) < s0 → (v_Reader_findMinutes_48 I0 I1 I2 n3 f3 n4 f4 x1 k8 Z)) ∧ (¬ (2 : Int32) < s0 → (v_Reader_findMinutes_49 I0 I1 I2 n3 f3 n4 f4 x1 (1 : Int32) k8 Z)))
def v_Reader_findMinutes_27 (I0 : Nat → Int32) (I1 : Nat → Int32) (I2 : Nat → Int32) (n3 : Nat) (f3 : Nat → Int32) (n4 : Nat) (f4 : Nat → Int32) (x1 : Int32) (s0 : Int32) (k8 : (Nat → Int32) → Int32 → Prop) (Z : (Nat → Int32) → Prop) : Prop :=
  ((¬ s0 = (21 : Int32) → (v_Reader_findMinutes_48 I0 I1 I2 n3 f3 n4 f4 x1 k8 Z)) ∧ (s0 = (21 : Int32) → (v_Code_mark_0 I2 n4 f4 x1 (fun r u => (v_Reader_findMinutes_40 I0 I1 I2 n3 f3 n4 f4 x1 r k8 Z)))))
def v_Reader_findMinutes_8 (I0 : Nat → Int32) (I1 : Nat → Int32) (I2 : Nat → Int32) (n3 : Nat) (n4 : Nat) (f4 : Nat → Int32)  (Z : (Nat → Int32) → Prop) : Nat → (Nat → Int32) → Int32 → Prop
  | 0 => fun _ _ => False
  | N + 1 => fun f3 x1 => (((I1 2) ≤ x1 → (Z (f3))) ∧ (¬ (I1 2) ≤ x1 → (v_Code_kind_0 I2 n3 f3 x1 (fun r u => (v_Reader_findMinutes_27 I0 I1 I2 n3 f3 n4 f4 x1 r (v_Reader_findMinutes_8 I0 I1 I2 n3 n4 f4  Z N) Z)))))
def v_Reader_findMinutes_0 (I0 : Nat → Int32) (I1 : Nat → Int32) (I2 : Nat → Int32) (n3 : Nat) (f3 : Nat → Int32) (n4 : Nat) (f4 : Nat → Int32)  (Z : (Nat → Int32) → Prop) : Prop :=
  (∃ Nx, v_Reader_findMinutes_8 I0 I1 I2 n3 n4 f4  Z Nx f3 (I1 1))
def v_Code_add_0 (I0 : Nat → Int32) (n1 : Nat) (f1 : Nat → Int32) (n2 : Nat) (f2 : Nat → Int32) (x1 : Int32) (x2 : Int32)  (Z : (Nat → Int32) × (Nat → Int32) × (Nat → Int32) → Prop) : Prop :=
  (((I0 4) < 0 → (Z (I0, f1, f2))) ∧ (¬ (I0 4) < 0 → (((nI n1) ≤ (I0 4) → (Z (I0, f1, f2))) ∧ (¬ (nI n1) ≤ (I0 4) → (((nI n2) ≤ (I0 4) → (Z (I0, f1, f2))) ∧ (¬ (nI n2) ≤ (I0 4) → (vp_in (I0 4) n1 ∧ (vp_in (I0 4) n2 ∧ (Z ((zu I0 4 ((I0 4) + (1 : Int32))), (upd f1 (I0 4).toNatClampNeg x1), (upd f2 (I0 4).toNatClampNeg x2)))))))))))
def v_Reader_addCommon_154 (I0 : Nat → Int32) (n1 : Nat) (f1 : Nat → Int32) (I2 : Nat → Int32) (n3 : Nat) (f3 : Nat → Int32) (n4 : Nat) (f4 : Nat → Int32)  (Z : (Nat → Int32) × (Nat → Int32) × (Nat → Int32) → Prop) : Prop :=
  (Z (I2, f3, f4))
def v_Reader_addCommon_113 (I0 : Nat → Int32) (n1 : Nat) (f1 : Nat → Int32) (I2 : Nat → Int32) (n3 : Nat) (f3 : Nat → Int32) (n4 : Nat) (f4 : Nat → Int32)  (Z : (Nat → Int32) × (Nat → Int32) × (Nat → Int32) → Prop) : Prop :=
  (v_Reader_addCommon_154 I0 n1 f1 I2 n3 f3 n4 f4  Z)
def v_Reader_addCommon_110 (I0 : Nat → Int32) (n1 : Nat) (f1 : Nat → Int32) (I2 : Nat → Int32) (n3 : Nat) (f3 : Nat → Int32) (n4 : Nat) (f4 : Nat → Int32) (s1 : Int32) (s2 : Int32)  (Z : (Nat → Int32) × (Nat → Int32) × (Nat → Int32) → Prop) : Prop :=
  (v_Code_add_0 I2 n3 f3 n4 f4 s1 s2 (fun u => (v_Reader_addCommon_113 I0 n1 f1 u.1 n3 u.2.1 n4 u.2.2  Z)))
def v_Reader_addCommon_126 (I0 : Nat → Int32) (n1 : Nat) (f1 : Nat → Int32) (I2 : Nat → Int32) (n3 : Nat) (f3 : Nat → Int32) (n4 : Nat) (f4 : Nat → Int32)  (Z : (Nat → Int32) × (Nat → Int32) × (Nat → Int32) → Prop) : Prop :=
  (v_Reader_addCommon_154 I0 n1 f1 I2 n3 f3 n4 f4  Z)
def v_Reader_addCommon_138 (I0 : Nat → Int32) (n1 : Nat) (f1 : Nat → Int32) (I2 : Nat → Int32) (n3 : Nat) (f3 : Nat → Int32) (n4 : Nat) (f4 : Nat → Int32)  (Z : (Nat → Int32) × (Nat → Int32) × (Nat → Int32) → Prop) : Prop :=
  (v_Reader_addCommon_154 I0 n1 f1 I2 n3 f3 n4 f4  Z)
def v_Reader_addCommon_151 (I0 : Nat → Int32) (n1 : Nat) (f1 : Nat → Int32) (I2 : Nat → Int32) (n3 : Nat) (f3 : Nat → Int32) (n4 : Nat) (f4 : Nat → Int32) (s1 : Int32) (s2 : Int32)  (Z : (Nat → Int32) × (Nat → Int32) × (Nat → Int32) → Prop) : Prop :=
  (v_Code_add_0 I2 n3 f3 n4 f4 s1 s2 (fun u => (v_Reader_addCommon_154 I0 n1 f1 u.1 n3 u.2.1 n4 u.2.2  Z)))
def v_Reader_addCommon_89 (I0 : Nat → Int32) (n1 : Nat) (f1 : Nat → Int32) (I2 : Nat → Int32) (n3 : Nat) (f3 : Nat → Int32) (n4 : Nat) (f4 : Nat → Int32) (x1 : Int32) (x2 : Int32) (x3 : Int32) (k67 : (Nat → Int32) → (Nat → Int32) → (Nat → Int32) → Int32 → Prop) (Z : (Nat → Int32) × (Nat → Int32) × (Nat → Int32) → Prop) : Prop :=
  (k67 I2 f3 f4 (x3 + (1 : Int32)))
def v_Reader_addCommon_86 (I0 : Nat → Int32) (n1 : Nat) (f1 : Nat → Int32) (I2 : Nat → Int32) (n3 : Nat) (f3 : Nat → Int32) (n4 : Nat) (f4 : Nat → Int32) (x1 : Int32) (x2 : Int32) (x3 : Int32) (s1 : Int32) (s2 : Int32) (k67 : (Nat → Int32) → (Nat → Int32) → (Nat → Int32) → Int32 → Prop) (Z : (Nat → Int32) × (Nat → Int32) × (Nat → Int32) → Prop) : Prop :=
  (v_Code_add_0 I2 n3 f3 n4 f4 s1 s2 (fun u => (v_Reader_addCommon_89 I0 n1 f1 u.1 n3 u.2.1 n4 u.2.2 x1 x2 x3 k67 Z)))
def v_Reader_addCommon_67 (I0 : Nat → Int32) (n1 : Nat) (f1 : Nat → Int32) (n3 : Nat) (n4 : Nat) (x1 : Int32) (x2 : Int32)  (Z : (Nat → Int32) × (Nat → Int32) × (Nat → Int32) → Prop) : Nat → (Nat → Int32) → (Nat → Int32) → (Nat → Int32) → Int32 → Prop
  | 0 => fun _ _ _ _ => False
  | N + 1 => fun I2 f3 f4 x3 => (((x2 - (1 : Int32)) ≤ x3 → (v_Reader_addCommon_154 I0 n1 f1 I2 n3 f3 n4 f4  Z)) ∧ (¬ (x2 - (1 : Int32)) ≤ x3 → (v_Reader_sign_0 I0 n1 f1 (x1 + x3) (fun r u => (v_Reader_addCommon_86 I0 n1 f1 I2 n3 f3 n4 f4 x1 x2 x3 (1 : Int32) r (v_Reader_addCommon_67 I0 n1 f1 n3 n4 x1 x2  Z N) Z)))))
def v_Reader_addCommon_65 (I0 : Nat → Int32) (n1 : Nat) (f1 : Nat → Int32) (I2 : Nat → Int32) (n3 : Nat) (f3 : Nat → Int32) (n4 : Nat) (f4 : Nat → Int32) (x1 : Int32) (x2 : Int32)  (Z : (Nat → Int32) × (Nat → Int32) × (Nat → Int32) → Prop) : Prop :=
  (∃ Nx, v_Reader_addCommon_67 I0 n1 f1 n3 n4 x1 x2  Z Nx I2 f3 f4 (1 : Int32))
def v_Reader_addCommon_5 (I0 : Nat → Int32) (n1 : Nat) (f1 : Nat → Int32) (I2 : Nat → Int32) (n3 : Nat) (f3 : Nat → Int32) (n4 : Nat) (f4 : Nat → Int32) (x1 : Int32) (x2 : Int32) (s0 : Int32)  (Z : (Nat → Int32) × (Nat → Int32) × (Nat → Int32) → Prop) : Prop :=
  ((s0 = (34 : Int32) → (v_Code_add_0 I2 n3 f3 n4 f4 (0 : Int32) (0 : Int32) (fun u => (v_Reader_addCommon_65 I0 n1 f1 u.1 n3 u.2.1 n4 u.2.2 x1 x2  Z)))) ∧ (¬ s0 = (34 : Int32) → ((s0 = (42 : Int32) → (v_Code_add_0 I2 n3 f3 n4 f4 (0 : Int32) (0 : Int32) (fun u => (v_Reader_addCommon_138 I0 n1 f1 u.1 n3 u.2.1 n4 u.2.2  Z)))) ∧ (¬ s0 = (42 : Int32) → ((s0 = (91 : Int32) → (v_Code_add_0 I2 n3 f3 n4 f4 (0 : Int32) (0 : Int32) (fun u => (v_Reader_addCommon_138 I0 n1 f1 u.1 n3 u.2.1 n4 u.2.2  Z)))) ∧ (¬ s0 = (91 : Int32) → ((s0 = (92 : Int32) → (v_Reader_sign_0 I0 n1 f1 (x1 + (1 : Int32)) (fun r u => (v_Reader_addCommon_110 I0 n1 f1 I2 n3 f3 n4 f4 (1 : Int32) r  Z)))) ∧ (¬ s0 = (92 : Int32) → ((s0 = (95 : Int32) → (v_Code_add_0 I2 n3 f3 n4 f4 (1 : Int32) (32 : Int32) (fun u => (v_Reader_addCommon_126 I0 n1 f1 u.1 n3 u.2.1 n4 u.2.2  Z)))) ∧ (¬ s0 = (95 : Int32) → (v_Reader_sign_0 I0 n1 f1 x1 (fun r u => (v_Reader_addCommon_151 I0 n1 f1 I2 n3 f3 n4 f4 (1 : Int32) r  Z)))))))))))))
def v_Reader_addCommon_0 (I0 : Nat → Int32) (n1 : Nat) (f1 : Nat → Int32) (I2 : Nat → Int32) (n3 : Nat) (f3 : Nat → Int32) (n4 : Nat) (f4 : Nat → Int32) (x1 : Int32) (x2 : Int32)  (Z : (Nat → Int32) × (Nat → Int32) × (Nat → Int32) → Prop) : Prop :=
  (v_Reader_sign_0 I0 n1 f1 x1 (fun r u => (v_Reader_addCommon_5 I0 n1 f1 I2 n3 f3 n4 f4 x1 x2 r  Z)))
def v_Reader_addOne_9 (I0 : Nat → Int32) (I1 : Nat → Int32) (n2 : Nat) (f2 : Nat → Int32) (n3 : Nat) (f3 : Nat → Int32)  (Z : Int32 → (Nat → Int32) × (Nat → Int32) × (Nat → Int32) → Prop) : Prop :=
  (Z (1 : Int32) (I1, f2, f3))
def v_Reader_addOne_0 (I0 : Nat → Int32) (I1 : Nat → Int32) (n2 : Nat) (f2 : Nat → Int32) (n3 : Nat) (f3 : Nat → Int32) (x1 : Int32) (x2 : Int32)  (Z : Int32 → (Nat → Int32) × (Nat → Int32) × (Nat → Int32) → Prop) : Prop :=
  (v_Code_add_0 I1 n2 f2 n3 f3 x1 x2 (fun u => (v_Reader_addOne_9 I0 u.1 n2 u.2.1 n3 u.2.2  Z)))
def v_Reader_readHalfDay_31 (I0 : Nat → Int32) (I1 : Nat → Int32) (I2 : Nat → Int32) (n3 : Nat) (f3 : Nat → Int32) (n4 : Nat) (f4 : Nat → Int32) (x1 : Int32)  (Z : Int32 → (Nat → Int32) × (Nat → Int32) × (Nat → Int32) × (Nat → Int32) → Prop) : Prop :=
  (Z x1 (I1, I2, f3, f4))
def v_Reader_readHalfDay_28 (I0 : Nat → Int32) (I1 : Nat → Int32) (I2 : Nat → Int32) (n3 : Nat) (f3 : Nat → Int32) (n4 : Nat) (f4 : Nat → Int32) (x1 : Int32) (s1 : Int32) (s2 : Int32)  (Z : Int32 → (Nat → Int32) × (Nat → Int32) × (Nat → Int32) × (Nat → Int32) → Prop) : Prop :=
  (v_Code_add_0 I2 n3 f3 n4 f4 s1 s2 (fun u => (v_Reader_readHalfDay_31 I0 I1 u.1 n3 u.2.1 n4 u.2.2 x1  Z)))
def v_Reader_readHalfDay_0 (I0 : Nat → Int32) (I1 : Nat → Int32) (I2 : Nat → Int32) (n3 : Nat) (f3 : Nat → Int32) (n4 : Nat) (f4 : Nat → Int32) (x1 : Int32)  (Z : Int32 → (Nat → Int32) × (Nat → Int32) × (Nat → Int32) × (Nat → Int32) → Prop) : Prop :=
  ((x1 ≤ 0 → (v_Reader_readHalfDay_31 I0 I1 I2 n3 f3 n4 f4 x1  Z)) ∧ (¬ x1 ≤ 0 → ((¬ x1 = (5 : Int32) → (v_Reader_readHalfDay_28 I0 (zu I1 14 (1 : Int32)) I2 n3 f3 n4 f4 x1 (30 : Int32) (1 : Int32)  Z)) ∧ (x1 = (5 : Int32) → (v_Reader_readHalfDay_28 I0 (zu I1 14 (1 : Int32)) I2 n3 f3 n4 f4 x1 (30 : Int32) (2 : Int32)  Z)))))
def v_Reader_readInAll_52 (I0 : Nat → Int32) (n1 : Nat) (f1 : Nat → Int32) (I2 : Nat → Int32) (n3 : Nat) (f3 : Nat → Int32) (n4 : Nat) (f4 : Nat → Int32) (x2 : Int32)  (Z : Int32 → (Nat → Int32) × (Nat → Int32) × (Nat → Int32) → Prop) : Prop :=
  (Z (x2 + (2 : Int32)) (I2, f3, f4))
def v_Reader_readInAll_48 (I0 : Nat → Int32) (n1 : Nat) (f1 : Nat → Int32) (I2 : Nat → Int32) (n3 : Nat) (f3 : Nat → Int32) (n4 : Nat) (f4 : Nat → Int32) (x2 : Int32) (s1 : Int32)  (Z : Int32 → (Nat → Int32) × (Nat → Int32) × (Nat → Int32) → Prop) : Prop :=
  (v_Code_add_0 I2 n3 f3 n4 f4 s1 x2 (fun u => (v_Reader_readInAll_52 I0 n1 f1 u.1 n3 u.2.1 n4 u.2.2 x2  Z)))
def v_Reader_readInAll_19 (I0 : Nat → Int32) (n1 : Nat) (f1 : Nat → Int32) (I2 : Nat → Int32) (n3 : Nat) (f3 : Nat → Int32) (n4 : Nat) (f4 : Nat → Int32) (x2 : Int32) (s0 : Int32)  (Z : Int32 → (Nat → Int32) × (Nat → Int32) × (Nat → Int32) → Prop) : Prop :=
  ((¬ s0 = (104 : Int32) → ((¬ s0 = (109 : Int32) → (v_Reader_readInAll_48 I0 n1 f1 I2 n3 f3 n4 f4 x2 (28 : Int32)  Z)) ∧ (s0 = (109 : Int32) → (v_Reader_readInAll_48 I0 n1 f1 I2 n3 f3 n4 f4 x2 (27 : Int32)  Z)))) ∧ (s0 = (104 : Int32) → (v_Reader_readInAll_48 I0 n1 f1 I2 n3 f3 n4 f4 x2 (26 : Int32)  Z)))
def v_Reader_readInAll_0 (I0 : Nat → Int32) (n1 : Nat) (f1 : Nat → Int32) (I2 : Nat → Int32) (n3 : Nat) (f3 : Nat → Int32) (n4 : Nat) (f4 : Nat → Int32) (x1 : Int32) (x2 : Int32)  (Z : Int32 → (Nat → Int32) × (Nat → Int32) × (Nat → Int32) → Prop) : Prop :=
  ((x2 < (1 : Int32) → (Z (0 : Int32) (I2, f3, f4))) ∧ (¬ x2 < (1 : Int32) → ((x2 ≤ (2 : Int32) → (v_Reader_small_0 I0 n1 f1 (x1 + (1 : Int32)) (fun r u => (v_Reader_readInAll_19 I0 n1 f1 I2 n3 f3 n4 f4 x2 r  Z)))) ∧ (¬ x2 ≤ (2 : Int32) → (Z (0 : Int32) (I2, f3, f4))))))
def v_Reader_kindBefore_29 (I0 : Nat → Int32) (I1 : Nat → Int32) (I2 : Nat → Int32) (n3 : Nat) (f3 : Nat → Int32) (s0 : Int32)  (Z : Int32 → Unit → Prop) : Prop :=
  (Z s0 ())
def v_Reader_kindBefore_0 (I0 : Nat → Int32) (I1 : Nat → Int32) (I2 : Nat → Int32) (n3 : Nat) (f3 : Nat → Int32)  (Z : Int32 → Unit → Prop) : Prop :=
  ((((I1 4) - (1 : Int32)) < (I2 1) → (Z (0 : Int32) ())) ∧ (¬ ((I1 4) - (1 : Int32)) < (I2 1) → (v_Code_kind_0 I1 n3 f3 ((I1 4) - (1 : Int32)) (fun r u => (v_Reader_kindBefore_29 I0 I1 I2 n3 f3 r  Z)))))
def v_Reader_readParts_52 (I0 : Nat → Int32) (I1 : Nat → Int32) (I2 : Nat → Int32) (n3 : Nat) (f3 : Nat → Int32) (n4 : Nat) (f4 : Nat → Int32) (n5 : Nat) (f5 : Nat → Int32) (s0 : Int32)  (Z : Int32 → (Nat → Int32) × (Nat → Int32) × (Nat → Int32) × (Nat → Int32) → Prop) : Prop :=
  (Z s0 (I1, I2, f3, f5))
def v_Reader_readParts_45 (I0 : Nat → Int32) (I1 : Nat → Int32) (I2 : Nat → Int32) (n3 : Nat) (f3 : Nat → Int32) (n4 : Nat) (f4 : Nat → Int32) (n5 : Nat) (f5 : Nat → Int32)  (Z : Int32 → (Nat → Int32) × (Nat → Int32) × (Nat → Int32) × (Nat → Int32) → Prop) : Prop :=
  (v_Reader_addOne_0 I0 I1 n3 f3 n5 f5 (1 : Int32) (46 : Int32) (fun r u => (v_Reader_readParts_52 I0 u.1 I2 n3 u.2.1 n4 f4 n5 u.2.2 r  Z)))
def v_Reader_readParts_88 (I0 : Nat → Int32) (I1 : Nat → Int32) (I2 : Nat → Int32) (n3 : Nat) (f3 : Nat → Int32) (n4 : Nat) (f4 : Nat → Int32) (n5 : Nat) (f5 : Nat → Int32) (x3 : Int32)  (Z : Int32 → (Nat → Int32) × (Nat → Int32) × (Nat → Int32) × (Nat → Int32) → Prop) : Prop :=
  (Z ((1 : Int32) + x3) (I1, I2, f3, f5))
def v_Reader_readParts_53 (I0 : Nat → Int32) (I1 : Nat → Int32) (I2 : Nat → Int32) (n3 : Nat) (f3 : Nat → Int32) (n4 : Nat) (f4 : Nat → Int32) (n5 : Nat) (f5 : Nat → Int32) (x3 : Int32)  (Z : Int32 → (Nat → Int32) × (Nat → Int32) × (Nat → Int32) × (Nat → Int32) → Prop) : Prop :=
  ((x3 ≤ (3 : Int32) → (v_Code_add_0 I1 n3 f3 n5 f5 (29 : Int32) x3 (fun u => (v_Reader_readParts_88 I0 u.1 (zu I2 13 (zmax (I2 13) x3)) n3 u.2.1 n4 f4 n5 u.2.2 x3  Z)))) ∧ (¬ x3 ≤ (3 : Int32) → (Z (0 : Int32) (I1, I2, f3, f5))))
def v_Reader_readParts_28 (I0 : Nat → Int32) (I1 : Nat → Int32) (I2 : Nat → Int32) (n3 : Nat) (f3 : Nat → Int32) (n4 : Nat) (f4 : Nat → Int32) (n5 : Nat) (f5 : Nat → Int32) (x2 : Int32) (s0 : Int32)  (Z : Int32 → (Nat → Int32) × (Nat → Int32) × (Nat → Int32) × (Nat → Int32) → Prop) : Prop :=
  ((s0 = 0 → (v_Reader_readParts_45 I0 I1 I2 n3 f3 n4 f4 n5 f5  Z)) ∧ (¬ s0 = 0 → ((x2 = (25 : Int32) → (v_Reader_readParts_53 I0 I1 I2 n3 f3 n4 f4 n5 f5 s0  Z)) ∧ (¬ x2 = (25 : Int32) → ((x2 = (28 : Int32) → (v_Reader_readParts_53 I0 I1 I2 n3 f3 n4 f4 n5 f5 s0  Z)) ∧ (¬ x2 = (28 : Int32) → (v_Reader_readParts_45 I0 I1 I2 n3 f3 n4 f4 n5 f5  Z)))))))
def v_Reader_readParts_24 (I0 : Nat → Int32) (I1 : Nat → Int32) (I2 : Nat → Int32) (n3 : Nat) (f3 : Nat → Int32) (n4 : Nat) (f4 : Nat → Int32) (n5 : Nat) (f5 : Nat → Int32) (x2 : Int32) (s0 : Int32)  (Z : Int32 → (Nat → Int32) × (Nat → Int32) × (Nat → Int32) × (Nat → Int32) → Prop) : Prop :=
  (v_Reader_readParts_28 I0 I1 I2 n3 f3 n4 f4 n5 f5 x2 s0  Z)
def v_Reader_readParts_12 (I0 : Nat → Int32) (I1 : Nat → Int32) (I2 : Nat → Int32) (n3 : Nat) (f3 : Nat → Int32) (n4 : Nat) (f4 : Nat → Int32) (n5 : Nat) (f5 : Nat → Int32) (x1 : Int32) (x2 : Int32) (s0 : Int32)  (Z : Int32 → (Nat → Int32) × (Nat → Int32) × (Nat → Int32) × (Nat → Int32) → Prop) : Prop :=
  ((¬ s0 = (48 : Int32) → (v_Reader_readParts_28 I0 I1 I2 n3 f3 n4 f4 n5 f5 x2 (0 : Int32)  Z)) ∧ (s0 = (48 : Int32) → (v_Reader_rowLength_0 I0 n4 f4 (x1 + (1 : Int32)) (fun r u => (v_Reader_readParts_24 I0 I1 I2 n3 f3 n4 f4 n5 f5 x2 r  Z)))))
def v_Reader_readParts_4 (I0 : Nat → Int32) (I1 : Nat → Int32) (I2 : Nat → Int32) (n3 : Nat) (f3 : Nat → Int32) (n4 : Nat) (f4 : Nat → Int32) (n5 : Nat) (f5 : Nat → Int32) (x1 : Int32) (s0 : Int32)  (Z : Int32 → (Nat → Int32) × (Nat → Int32) × (Nat → Int32) × (Nat → Int32) → Prop) : Prop :=
  (v_Reader_sign_0 I0 n4 f4 (x1 + (1 : Int32)) (fun r u => (v_Reader_readParts_12 I0 I1 I2 n3 f3 n4 f4 n5 f5 x1 s0 r  Z)))
def v_Reader_readParts_0 (I0 : Nat → Int32) (I1 : Nat → Int32) (I2 : Nat → Int32) (n3 : Nat) (f3 : Nat → Int32) (n4 : Nat) (f4 : Nat → Int32) (n5 : Nat) (f5 : Nat → Int32) (x1 : Int32)  (Z : Int32 → (Nat → Int32) × (Nat → Int32) × (Nat → Int32) × (Nat → Int32) → Prop) : Prop :=
  (v_Reader_kindBefore_0 I0 I1 I2 n3 f3 (fun r u => (v_Reader_readParts_4 I0 I1 I2 n3 f3 n4 f4 n5 f5 x1 r  Z)))
def v_Reader_addRow_9 (I0 : Nat → Int32) (I1 : Nat → Int32) (n2 : Nat) (f2 : Nat → Int32) (n3 : Nat) (f3 : Nat → Int32) (x2 : Int32)  (Z : Int32 → (Nat → Int32) × (Nat → Int32) × (Nat → Int32) → Prop) : Prop :=
  (Z x2 (I1, f2, f3))
def v_Reader_addRow_0 (I0 : Nat → Int32) (I1 : Nat → Int32) (n2 : Nat) (f2 : Nat → Int32) (n3 : Nat) (f3 : Nat → Int32) (x1 : Int32) (x2 : Int32)  (Z : Int32 → (Nat → Int32) × (Nat → Int32) × (Nat → Int32) → Prop) : Prop :=
  (v_Code_add_0 I1 n2 f2 n3 f3 x1 x2 (fun u => (v_Reader_addRow_9 I0 u.1 n2 u.2.1 n3 u.2.2 x2  Z)))
def v_Reader_readRow_116 (I0 : Nat → Int32) (n1 : Nat) (f1 : Nat → Int32) (I2 : Nat → Int32) (n3 : Nat) (f3 : Nat → Int32) (n4 : Nat) (f4 : Nat → Int32) (s0 : Int32)  (Z : Int32 → (Nat → Int32) × (Nat → Int32) × (Nat → Int32) → Prop) : Prop :=
  (Z s0 (I2, f3, f4))
def v_Reader_readRow_133 (I0 : Nat → Int32) (n1 : Nat) (f1 : Nat → Int32) (I2 : Nat → Int32) (n3 : Nat) (f3 : Nat → Int32) (n4 : Nat) (f4 : Nat → Int32) (s0 : Int32)  (Z : Int32 → (Nat → Int32) × (Nat → Int32) × (Nat → Int32) → Prop) : Prop :=
  (Z s0 (I2, f3, f4))
def v_Reader_readRow_65 (I0 : Nat → Int32) (n1 : Nat) (f1 : Nat → Int32) (I2 : Nat → Int32) (n3 : Nat) (f3 : Nat → Int32) (n4 : Nat) (f4 : Nat → Int32) (s0 : Int32)  (Z : Int32 → (Nat → Int32) × (Nat → Int32) × (Nat → Int32) → Prop) : Prop :=
  (Z s0 (I2, f3, f4))
def v_Reader_readRow_58 (I0 : Nat → Int32) (n1 : Nat) (f1 : Nat → Int32) (I2 : Nat → Int32) (n3 : Nat) (f3 : Nat → Int32) (n4 : Nat) (f4 : Nat → Int32) (x3 : Int32)  (Z : Int32 → (Nat → Int32) × (Nat → Int32) × (Nat → Int32) → Prop) : Prop :=
  (v_Reader_addRow_0 I0 I2 n3 f3 n4 f4 (20 : Int32) x3 (fun r u => (v_Reader_readRow_65 I0 n1 f1 u.1 n3 u.2.1 n4 u.2.2 r  Z)))
def v_Reader_readRow_82 (I0 : Nat → Int32) (n1 : Nat) (f1 : Nat → Int32) (I2 : Nat → Int32) (n3 : Nat) (f3 : Nat → Int32) (n4 : Nat) (f4 : Nat → Int32) (s0 : Int32)  (Z : Int32 → (Nat → Int32) × (Nat → Int32) × (Nat → Int32) → Prop) : Prop :=
  (Z s0 (I2, f3, f4))
def v_Reader_readRow_99 (I0 : Nat → Int32) (n1 : Nat) (f1 : Nat → Int32) (I2 : Nat → Int32) (n3 : Nat) (f3 : Nat → Int32) (n4 : Nat) (f4 : Nat → Int32) (s0 : Int32)  (Z : Int32 → (Nat → Int32) × (Nat → Int32) × (Nat → Int32) → Prop) : Prop :=
  (Z s0 (I2, f3, f4))
def v_Reader_readRow_5 (I0 : Nat → Int32) (n1 : Nat) (f1 : Nat → Int32) (I2 : Nat → Int32) (n3 : Nat) (f3 : Nat → Int32) (n4 : Nat) (f4 : Nat → Int32) (x2 : Int32) (s0 : Int32)  (Z : Int32 → (Nat → Int32) × (Nat → Int32) × (Nat → Int32) → Prop) : Prop :=
  ((x2 = (100 : Int32) → (((4 : Int32) < s0 → (Z (0 : Int32) (I2, f3, f4))) ∧ (¬ (4 : Int32) < s0 → (v_Reader_addRow_0 I0 I2 n3 f3 n4 f4 (22 : Int32) s0 (fun r u => (v_Reader_readRow_99 I0 n1 f1 u.1 n3 u.2.1 n4 u.2.2 r  Z)))))) ∧ (¬ x2 = (100 : Int32) → ((x2 = (104 : Int32) → (((2 : Int32) < s0 → (Z (0 : Int32) (I2, f3, f4))) ∧ (¬ (2 : Int32) < s0 → (v_Reader_addRow_0 I0 I2 n3 f3 n4 f4 (23 : Int32) s0 (fun r u => (v_Reader_readRow_116 I0 n1 f1 u.1 n3 u.2.1 n4 u.2.2 r  Z)))))) ∧ (¬ x2 = (104 : Int32) → ((x2 = (109 : Int32) → (((5 : Int32) < s0 → (Z (0 : Int32) (I2, f3, f4))) ∧ (¬ (5 : Int32) < s0 → (v_Reader_addRow_0 I0 I2 n3 f3 n4 f4 (21 : Int32) s0 (fun r u => (v_Reader_readRow_82 I0 n1 f1 u.1 n3 u.2.1 n4 u.2.2 r  Z)))))) ∧ (¬ x2 = (109 : Int32) → ((x2 = (121 : Int32) → ((s0 = (2 : Int32) → (v_Reader_readRow_58 I0 n1 f1 I2 n3 f3 n4 f4 s0  Z)) ∧ (¬ s0 = (2 : Int32) → ((¬ s0 = (4 : Int32) → (Z (0 : Int32) (I2, f3, f4))) ∧ (s0 = (4 : Int32) → (v_Reader_readRow_58 I0 n1 f1 I2 n3 f3 n4 f4 s0  Z)))))) ∧ (¬ x2 = (121 : Int32) → (((2 : Int32) < s0 → (Z (0 : Int32) (I2, f3, f4))) ∧ (¬ (2 : Int32) < s0 → (v_Reader_addRow_0 I0 I2 n3 f3 n4 f4 (25 : Int32) s0 (fun r u => (v_Reader_readRow_133 I0 n1 f1 u.1 n3 u.2.1 n4 u.2.2 r  Z)))))))))))))
def v_Reader_readRow_0 (I0 : Nat → Int32) (n1 : Nat) (f1 : Nat → Int32) (I2 : Nat → Int32) (n3 : Nat) (f3 : Nat → Int32) (n4 : Nat) (f4 : Nat → Int32) (x1 : Int32) (x2 : Int32)  (Z : Int32 → (Nat → Int32) × (Nat → Int32) × (Nat → Int32) → Prop) : Prop :=
  (v_Reader_rowLength_0 I0 n1 f1 x1 (fun r u => (v_Reader_readRow_5 I0 n1 f1 I2 n3 f3 n4 f4 x2 r  Z)))
def v_Reader_readSign_46 (I0 : Nat → Int32) (n1 : Nat) (f1 : Nat → Int32) (I2 : Nat → Int32) (n3 : Nat) (f3 : Nat → Int32) (n4 : Nat) (f4 : Nat → Int32) (s0 : Int32)  (Z : Int32 → (Nat → Int32) × (Nat → Int32) × (Nat → Int32) → Prop) : Prop :=
  (Z s0 (I2, f3, f4))
def v_Reader_readSign_35 (I0 : Nat → Int32) (n1 : Nat) (f1 : Nat → Int32) (I2 : Nat → Int32) (n3 : Nat) (f3 : Nat → Int32) (n4 : Nat) (f4 : Nat → Int32) (x2 : Int32) (s0 : Int32)  (Z : Int32 → (Nat → Int32) × (Nat → Int32) × (Nat → Int32) → Prop) : Prop :=
  ((s0 = 0 → (Z (0 : Int32) (I2, f3, f4))) ∧ (¬ s0 = 0 → (v_Reader_addOne_0 I0 I2 n3 f3 n4 f4 (1 : Int32) x2 (fun r u => (v_Reader_readSign_46 I0 n1 f1 u.1 n3 u.2.1 n4 u.2.2 r  Z)))))
def v_Reader_readSign_30 (I0 : Nat → Int32) (n1 : Nat) (f1 : Nat → Int32) (I2 : Nat → Int32) (n3 : Nat) (f3 : Nat → Int32) (n4 : Nat) (f4 : Nat → Int32) (x2 : Int32)  (Z : Int32 → (Nat → Int32) × (Nat → Int32) × (Nat → Int32) → Prop) : Prop :=
  (v_Reader_readSign_35 I0 n1 f1 I2 n3 f3 n4 f4 x2 (1 : Int32)  Z)
def v_Reader_readSign_5 (I0 : Nat → Int32) (n1 : Nat) (f1 : Nat → Int32) (I2 : Nat → Int32) (n3 : Nat) (f3 : Nat → Int32) (n4 : Nat) (f4 : Nat → Int32) (s0 : Int32)  (Z : Int32 → (Nat → Int32) × (Nat → Int32) × (Nat → Int32) → Prop) : Prop :=
  ((s0 = (46 : Int32) → (v_Reader_readSign_30 I0 n1 f1 I2 n3 f3 n4 f4 s0  Z)) ∧ (¬ s0 = (46 : Int32) → ((s0 = (44 : Int32) → (v_Reader_readSign_30 I0 n1 f1 I2 n3 f3 n4 f4 s0  Z)) ∧ (¬ s0 = (44 : Int32) → ((s0 = (47 : Int32) → (v_Reader_readSign_30 I0 n1 f1 I2 n3 f3 n4 f4 s0  Z)) ∧ (¬ s0 = (47 : Int32) → ((¬ s0 = (37 : Int32) → (v_Reader_readSign_35 I0 n1 f1 I2 n3 f3 n4 f4 s0 (0 : Int32)  Z)) ∧ (s0 = (37 : Int32) → (v_Reader_readSign_30 I0 n1 f1 I2 n3 f3 n4 f4 s0  Z)))))))))
def v_Reader_readSign_0 (I0 : Nat → Int32) (n1 : Nat) (f1 : Nat → Int32) (I2 : Nat → Int32) (n3 : Nat) (f3 : Nat → Int32) (n4 : Nat) (f4 : Nat → Int32) (x1 : Int32)  (Z : Int32 → (Nat → Int32) × (Nat → Int32) × (Nat → Int32) → Prop) : Prop :=
  (v_Reader_sign_0 I0 n1 f1 x1 (fun r u => (v_Reader_readSign_5 I0 n1 f1 I2 n3 f3 n4 f4 r  Z)))
def v_Reader_readDateItem_19 (I0 : Nat → Int32) (n1 : Nat) (f1 : Nat → Int32) (I2 : Nat → Int32) (n3 : Nat) (f3 : Nat → Int32) (n4 : Nat) (f4 : Nat → Int32) (I5 : Nat → Int32) (s0 : Int32)  (Z : Int32 → (Nat → Int32) × (Nat → Int32) × (Nat → Int32) × (Nat → Int32) → Prop) : Prop :=
  (Z s0 (I2, f3, f4, I5))
def v_Reader_readDateItem_36 (I0 : Nat → Int32) (n1 : Nat) (f1 : Nat → Int32) (I2 : Nat → Int32) (n3 : Nat) (f3 : Nat → Int32) (n4 : Nat) (f4 : Nat → Int32) (I5 : Nat → Int32) (s0 : Int32)  (Z : Int32 → (Nat → Int32) × (Nat → Int32) × (Nat → Int32) × (Nat → Int32) → Prop) : Prop :=
  (Z s0 (I2, f3, f4, I5))
def v_Reader_readDateItem_33 (I0 : Nat → Int32) (n1 : Nat) (f1 : Nat → Int32) (I2 : Nat → Int32) (n3 : Nat) (f3 : Nat → Int32) (n4 : Nat) (f4 : Nat → Int32) (I5 : Nat → Int32) (s1 : Int32) (s2 : Int32)  (Z : Int32 → (Nat → Int32) × (Nat → Int32) × (Nat → Int32) × (Nat → Int32) → Prop) : Prop :=
  (v_Reader_readInAll_0 I0 n1 f1 I2 n3 f3 n4 f4 s1 s2 (fun r u => (v_Reader_readDateItem_36 I0 n1 f1 u.1 n3 u.2.1 n4 u.2.2 I5 r  Z)))
def v_Reader_readDateItem_52 (I0 : Nat → Int32) (n1 : Nat) (f1 : Nat → Int32) (I2 : Nat → Int32) (n3 : Nat) (f3 : Nat → Int32) (n4 : Nat) (f4 : Nat → Int32) (I5 : Nat → Int32) (s0 : Int32)  (Z : Int32 → (Nat → Int32) × (Nat → Int32) × (Nat → Int32) × (Nat → Int32) → Prop) : Prop :=
  (Z s0 (I2, f3, f4, I5))
def v_Reader_readDateItem_49 (I0 : Nat → Int32) (n1 : Nat) (f1 : Nat → Int32) (I2 : Nat → Int32) (n3 : Nat) (f3 : Nat → Int32) (n4 : Nat) (f4 : Nat → Int32) (I5 : Nat → Int32) (s1 : Int32)  (Z : Int32 → (Nat → Int32) × (Nat → Int32) × (Nat → Int32) × (Nat → Int32) → Prop) : Prop :=
  (v_Reader_readHalfDay_0 I0 I5 I2 n3 f3 n4 f4 s1 (fun r u => (v_Reader_readDateItem_52 I0 n1 f1 u.2.1 n3 u.2.2.1 n4 u.2.2.2 u.1 r  Z)))
def v_Reader_readDateItem_72 (I0 : Nat → Int32) (n1 : Nat) (f1 : Nat → Int32) (I2 : Nat → Int32) (n3 : Nat) (f3 : Nat → Int32) (n4 : Nat) (f4 : Nat → Int32) (I5 : Nat → Int32) (s0 : Int32)  (Z : Int32 → (Nat → Int32) × (Nat → Int32) × (Nat → Int32) × (Nat → Int32) → Prop) : Prop :=
  (Z s0 (I2, f3, f4, I5))
def v_Reader_readDateItem_64 (I0 : Nat → Int32) (n1 : Nat) (f1 : Nat → Int32) (I2 : Nat → Int32) (n3 : Nat) (f3 : Nat → Int32) (n4 : Nat) (f4 : Nat → Int32) (I5 : Nat → Int32) (s0 : Int32)  (Z : Int32 → (Nat → Int32) × (Nat → Int32) × (Nat → Int32) × (Nat → Int32) → Prop) : Prop :=
  (v_Reader_readDateItem_72 I0 n1 f1 I2 n3 f3 n4 f4 I5 s0  Z)
def v_Reader_readDateItem_10 (I0 : Nat → Int32) (n1 : Nat) (f1 : Nat → Int32) (I2 : Nat → Int32) (n3 : Nat) (f3 : Nat → Int32) (n4 : Nat) (f4 : Nat → Int32) (I5 : Nat → Int32) (x1 : Int32) (x2 : Int32) (s0 : Int32)  (Z : Int32 → (Nat → Int32) × (Nat → Int32) × (Nat → Int32) × (Nat → Int32) → Prop) : Prop :=
  ((s0 = 0 → ((¬ x2 = (91 : Int32) → ((¬ x2 = (97 : Int32) → ((¬ x2 = (46 : Int32) → (v_Reader_readSign_0 I0 n1 f1 I2 n3 f3 n4 f4 x1 (fun r u => (v_Reader_readDateItem_72 I0 n1 f1 u.1 n3 u.2.1 n4 u.2.2 I5 r  Z)))) ∧ (x2 = (46 : Int32) → (v_Reader_readParts_0 I0 I2 I5 n3 f3 n1 f1 n4 f4 x1 (fun r u => (v_Reader_readDateItem_64 I0 n1 f1 u.1 n3 u.2.2.1 n4 u.2.2.2 u.2.1 r  Z)))))) ∧ (x2 = (97 : Int32) → (v_Reader_halfDayLength_0 I0 n1 f1 x1 (fun r u => (v_Reader_readDateItem_49 I0 n1 f1 I2 n3 f3 n4 f4 I5 r  Z)))))) ∧ (x2 = (91 : Int32) → (v_Reader_bracketRow_0 I0 n1 f1 x1 (fun r u => (v_Reader_readDateItem_33 I0 n1 f1 I2 n3 f3 n4 f4 I5 x1 r  Z)))))) ∧ (¬ s0 = 0 → (v_Reader_readRow_0 I0 n1 f1 I2 n3 f3 n4 f4 x1 x2 (fun r u => (v_Reader_readDateItem_19 I0 n1 f1 u.1 n3 u.2.1 n4 u.2.2 I5 r  Z)))))
def v_Reader_readDateItem_5 (I0 : Nat → Int32) (n1 : Nat) (f1 : Nat → Int32) (I2 : Nat → Int32) (n3 : Nat) (f3 : Nat → Int32) (n4 : Nat) (f4 : Nat → Int32) (I5 : Nat → Int32) (x1 : Int32) (s0 : Int32)  (Z : Int32 → (Nat → Int32) × (Nat → Int32) × (Nat → Int32) × (Nat → Int32) → Prop) : Prop :=
  (v_Reader_isDateLetter_0 s0 (fun r u => (v_Reader_readDateItem_10 I0 n1 f1 I2 n3 f3 n4 f4 I5 x1 s0 r  Z)))
def v_Reader_readDateItem_0 (I0 : Nat → Int32) (n1 : Nat) (f1 : Nat → Int32) (I2 : Nat → Int32) (n3 : Nat) (f3 : Nat → Int32) (n4 : Nat) (f4 : Nat → Int32) (I5 : Nat → Int32) (x1 : Int32)  (Z : Int32 → (Nat → Int32) × (Nat → Int32) × (Nat → Int32) × (Nat → Int32) → Prop) : Prop :=
  (v_Reader_small_0 I0 n1 f1 x1 (fun r u => (v_Reader_readDateItem_5 I0 n1 f1 I2 n3 f3 n4 f4 I5 x1 r  Z)))
def v_Reader_readComma_38 (I0 : Nat → Int32) (I1 : Nat → Int32) (I2 : Nat → Int32) (n3 : Nat) (f3 : Nat → Int32) (n4 : Nat) (f4 : Nat → Int32) (n5 : Nat) (f5 : Nat → Int32) (s0 : Int32)  (Z : Int32 → (Nat → Int32) × (Nat → Int32) × (Nat → Int32) × (Nat → Int32) → Prop) : Prop :=
  (Z s0 (I1, I2, f3, f5))
def v_Reader_readComma_71 (I0 : Nat → Int32) (I1 : Nat → Int32) (I2 : Nat → Int32) (n3 : Nat) (f3 : Nat → Int32) (n4 : Nat) (f4 : Nat → Int32) (n5 : Nat) (f5 : Nat → Int32) (s0 : Int32)  (Z : Int32 → (Nat → Int32) × (Nat → Int32) × (Nat → Int32) × (Nat → Int32) → Prop) : Prop :=
  (Z s0 (I1, I2, f3, f5))
def v_Reader_readComma_50 (I0 : Nat → Int32) (I1 : Nat → Int32) (I2 : Nat → Int32) (n3 : Nat) (f3 : Nat → Int32) (n4 : Nat) (f4 : Nat → Int32) (n5 : Nat) (f5 : Nat → Int32)  (Z : Int32 → (Nat → Int32) × (Nat → Int32) × (Nat → Int32) × (Nat → Int32) → Prop) : Prop :=
  (v_Reader_addOne_0 I0 I1 n3 f3 n5 f5 (6 : Int32) (44 : Int32) (fun r u => (v_Reader_readComma_71 I0 u.1 (zu I2 7 ((I2 7) + (1 : Int32))) n3 u.2.1 n4 f4 n5 u.2.2 r  Z)))
def v_Reader_readComma_39 (I0 : Nat → Int32) (I1 : Nat → Int32) (I2 : Nat → Int32) (n3 : Nat) (f3 : Nat → Int32) (n4 : Nat) (f4 : Nat → Int32) (n5 : Nat) (f5 : Nat → Int32) (x2 : Int32)  (Z : Int32 → (Nat → Int32) × (Nat → Int32) × (Nat → Int32) × (Nat → Int32) → Prop) : Prop :=
  ((x2 = (2 : Int32) → (v_Reader_readComma_50 I0 I1 I2 n3 f3 n4 f4 n5 f5  Z)) ∧ (¬ x2 = (2 : Int32) → ((¬ x2 = (6 : Int32) → (Z (0 : Int32) (I1, I2, f3, f5))) ∧ (x2 = (6 : Int32) → (v_Reader_readComma_50 I0 I1 I2 n3 f3 n4 f4 n5 f5  Z)))))
def v_Reader_readComma_20 (I0 : Nat → Int32) (I1 : Nat → Int32) (I2 : Nat → Int32) (n3 : Nat) (f3 : Nat → Int32) (n4 : Nat) (f4 : Nat → Int32) (n5 : Nat) (f5 : Nat → Int32) (x2 : Int32) (s0 : Int32)  (Z : Int32 → (Nat → Int32) × (Nat → Int32) × (Nat → Int32) × (Nat → Int32) → Prop) : Prop :=
  ((s0 = 0 → (v_Reader_readComma_39 I0 I1 I2 n3 f3 n4 f4 n5 f5 x2  Z)) ∧ (¬ s0 = 0 → (v_Reader_addOne_0 I0 I1 n3 f3 n5 f5 (5 : Int32) (44 : Int32) (fun r u => (v_Reader_readComma_38 I0 u.1 (zu I2 6 (1 : Int32)) n3 u.2.1 n4 f4 n5 u.2.2 r  Z)))))
def v_Reader_readComma_17 (I0 : Nat → Int32) (I1 : Nat → Int32) (I2 : Nat → Int32) (n3 : Nat) (f3 : Nat → Int32) (n4 : Nat) (f4 : Nat → Int32) (n5 : Nat) (f5 : Nat → Int32) (x2 : Int32) (s0 : Int32)  (Z : Int32 → (Nat → Int32) × (Nat → Int32) × (Nat → Int32) × (Nat → Int32) → Prop) : Prop :=
  (v_Reader_isPlace_0 s0 (fun r u => (v_Reader_readComma_20 I0 I1 I2 n3 f3 n4 f4 n5 f5 x2 r  Z)))
def v_Reader_readComma_4 (I0 : Nat → Int32) (I1 : Nat → Int32) (I2 : Nat → Int32) (n3 : Nat) (f3 : Nat → Int32) (n4 : Nat) (f4 : Nat → Int32) (n5 : Nat) (f5 : Nat → Int32) (x1 : Int32) (s0 : Int32)  (Z : Int32 → (Nat → Int32) × (Nat → Int32) × (Nat → Int32) × (Nat → Int32) → Prop) : Prop :=
  ((¬ s0 = (2 : Int32) → (v_Reader_readComma_39 I0 I1 I2 n3 f3 n4 f4 n5 f5 s0  Z)) ∧ (s0 = (2 : Int32) → (v_Reader_sign_0 I0 n4 f4 (x1 + (1 : Int32)) (fun r u => (v_Reader_readComma_17 I0 I1 I2 n3 f3 n4 f4 n5 f5 s0 r  Z)))))
def v_Reader_readComma_0 (I0 : Nat → Int32) (I1 : Nat → Int32) (I2 : Nat → Int32) (n3 : Nat) (f3 : Nat → Int32) (n4 : Nat) (f4 : Nat → Int32) (n5 : Nat) (f5 : Nat → Int32) (x1 : Int32)  (Z : Int32 → (Nat → Int32) × (Nat → Int32) × (Nat → Int32) × (Nat → Int32) → Prop) : Prop :=
  (v_Reader_kindBefore_0 I0 I1 I2 n3 f3 (fun r u => (v_Reader_readComma_4 I0 I1 I2 n3 f3 n4 f4 n5 f5 x1 r  Z)))
def v_Reader_isDigit_0 (x0 : Int32)  (Z : Int32 → Unit → Prop) : Prop :=
  ((x0 < (48 : Int32) → (Z (0 : Int32) ())) ∧ (¬ x0 < (48 : Int32) → (((57 : Int32) < x0 → (Z (0 : Int32) ())) ∧ (¬ (57 : Int32) < x0 → (Z (1 : Int32) ())))))
def v_Reader_digitsFrom_25 (I0 : Nat → Int32) (n1 : Nat) (f1 : Nat → Int32) (x1 : Int32) (x2 : Int32) (s0 : Int32) (k2 : Int32 → Prop) (Z : Int32 → Unit → Prop) : Prop :=
  ((s0 = (48 : Int32) → (Z x2 ())) ∧ (¬ s0 = (48 : Int32) → (k2 (x2 + (1 : Int32)))))
def v_Reader_digitsFrom_17 (I0 : Nat → Int32) (n1 : Nat) (f1 : Nat → Int32) (x1 : Int32) (x2 : Int32) (s0 : Int32) (k2 : Int32 → Prop) (Z : Int32 → Unit → Prop) : Prop :=
  ((s0 = 0 → (Z x2 ())) ∧ (¬ s0 = 0 → (v_Reader_sign_0 I0 n1 f1 x1 (fun r u => (v_Reader_digitsFrom_25 I0 n1 f1 x1 x2 r k2 Z)))))
def v_Reader_digitsFrom_14 (I0 : Nat → Int32) (n1 : Nat) (f1 : Nat → Int32) (x1 : Int32) (x2 : Int32) (s0 : Int32) (k2 : Int32 → Prop) (Z : Int32 → Unit → Prop) : Prop :=
  (v_Reader_isDigit_0 s0 (fun r u => (v_Reader_digitsFrom_17 I0 n1 f1 x1 x2 r k2 Z)))
def v_Reader_digitsFrom_2 (I0 : Nat → Int32) (n1 : Nat) (f1 : Nat → Int32) (x1 : Int32)  (Z : Int32 → Unit → Prop) : Nat → Int32 → Prop
  | 0 => fun _ => False
  | N + 1 => fun x2 => (((3 : Int32) ≤ x2 → (Z x2 ())) ∧ (¬ (3 : Int32) ≤ x2 → (v_Reader_sign_0 I0 n1 f1 (x1 + x2) (fun r u => (v_Reader_digitsFrom_14 I0 n1 f1 x1 x2 r (v_Reader_digitsFrom_2 I0 n1 f1 x1  Z N) Z)))))
def v_Reader_digitsFrom_0 (I0 : Nat → Int32) (n1 : Nat) (f1 : Nat → Int32) (x1 : Int32)  (Z : Int32 → Unit → Prop) : Prop :=
  (∃ Nx, v_Reader_digitsFrom_2 I0 n1 f1 x1  Z Nx (0 : Int32))
def v_Reader_makeNumerator_43 (I0 : Nat → Int32) (I1 : Nat → Int32) (I2 : Nat → Int32) (n3 : Nat) (f3 : Nat → Int32) (x1 : Int32) (k10 : (Nat → Int32) → (Nat → Int32) → Int32 → Prop) (Z : (Nat → Int32) × (Nat → Int32) → Prop) : Prop :=
  (k10 (zu (zu I2 3 ((I2 3) - (1 : Int32))) 10 ((I2 10) + (1 : Int32))) f3 (x1 + (-1 : Int32)))
def v_Reader_makeNumerator_29 (I0 : Nat → Int32) (I1 : Nat → Int32) (I2 : Nat → Int32) (n3 : Nat) (f3 : Nat → Int32) (x1 : Int32) (s0 : Int32) (k10 : (Nat → Int32) → (Nat → Int32) → Int32 → Prop) (Z : (Nat → Int32) × (Nat → Int32) → Prop) : Prop :=
  ((¬ s0 = (2 : Int32) → (Z (I2, f3))) ∧ (s0 = (2 : Int32) → (v_Code_change_0 I1 n3 f3 x1 (9 : Int32) (fun u => (v_Reader_makeNumerator_43 I0 I1 I2 n3 u x1 k10 Z)))))
def v_Reader_makeNumerator_10 (I0 : Nat → Int32) (I1 : Nat → Int32) (n3 : Nat)  (Z : (Nat → Int32) × (Nat → Int32) → Prop) : Nat → (Nat → Int32) → (Nat → Int32) → Int32 → Prop
  | 0 => fun _ _ _ => False
  | N + 1 => fun I2 f3 x1 => ((x1 < (I2 1) → (Z (I2, f3))) ∧ (¬ x1 < (I2 1) → (v_Code_kind_0 I1 n3 f3 x1 (fun r u => (v_Reader_makeNumerator_29 I0 I1 I2 n3 f3 x1 r (v_Reader_makeNumerator_10 I0 I1 n3  Z N) Z)))))
def v_Reader_makeNumerator_0 (I0 : Nat → Int32) (I1 : Nat → Int32) (I2 : Nat → Int32) (n3 : Nat) (f3 : Nat → Int32)  (Z : (Nat → Int32) × (Nat → Int32) → Prop) : Prop :=
  (∃ Nx, v_Reader_makeNumerator_10 I0 I1 n3  Z Nx I2 f3 ((I1 4) - (1 : Int32)))
def v_Reader_placesFrom_17 (I0 : Nat → Int32) (n1 : Nat) (f1 : Nat → Int32) (x1 : Int32) (x2 : Int32) (s0 : Int32) (k2 : Int32 → Prop) (Z : Int32 → Unit → Prop) : Prop :=
  ((s0 = 0 → (Z x2 ())) ∧ (¬ s0 = 0 → (k2 (x2 + (1 : Int32)))))
def v_Reader_placesFrom_14 (I0 : Nat → Int32) (n1 : Nat) (f1 : Nat → Int32) (x1 : Int32) (x2 : Int32) (s0 : Int32) (k2 : Int32 → Prop) (Z : Int32 → Unit → Prop) : Prop :=
  (v_Reader_isPlace_0 s0 (fun r u => (v_Reader_placesFrom_17 I0 n1 f1 x1 x2 r k2 Z)))
def v_Reader_placesFrom_2 (I0 : Nat → Int32) (n1 : Nat) (f1 : Nat → Int32) (x1 : Int32)  (Z : Int32 → Unit → Prop) : Nat → Int32 → Prop
  | 0 => fun _ => False
  | N + 1 => fun x2 => (((3 : Int32) ≤ x2 → (Z x2 ())) ∧ (¬ (3 : Int32) ≤ x2 → (v_Reader_sign_0 I0 n1 f1 (x1 + x2) (fun r u => (v_Reader_placesFrom_14 I0 n1 f1 x1 x2 r (v_Reader_placesFrom_2 I0 n1 f1 x1  Z N) Z)))))
def v_Reader_placesFrom_0 (I0 : Nat → Int32) (n1 : Nat) (f1 : Nat → Int32) (x1 : Int32)  (Z : Int32 → Unit → Prop) : Prop :=
  (∃ Nx, v_Reader_placesFrom_2 I0 n1 f1 x1  Z Nx (0 : Int32))
def v_Section_hasCommaOrPercent_0 (I0 : Nat → Int32)  (Z : Int32 → Unit → Prop) : Prop :=
  ((¬ (I0 6) = 0 → (Z (1 : Int32) ())) ∧ ((I0 6) = 0 → ((0 < (I0 7) → (Z (1 : Int32) ())) ∧ (¬ 0 < (I0 7) → (((I0 8) ≤ 0 → (Z (0 : Int32) ())) ∧ (¬ (I0 8) ≤ 0 → (Z (1 : Int32) ())))))))
def v_Reader_readFraction_115 (I0 : Nat → Int32) (n1 : Nat) (f1 : Nat → Int32) (I2 : Nat → Int32) (I3 : Nat → Int32) (n4 : Nat) (f4 : Nat → Int32) (n5 : Nat) (f5 : Nat → Int32) (x1 : Int32) (x2 : Int32) (x3 : Int32) (x5 : Int32) (k90 : (Nat → Int32) → (Nat → Int32) → (Nat → Int32) → Int32 → Prop) (Z : Int32 → (Nat → Int32) × (Nat → Int32) × (Nat → Int32) × (Nat → Int32) → Prop) : Prop :=
  (k90 I2 f4 f5 (x5 + (1 : Int32)))
def v_Reader_readFraction_112 (I0 : Nat → Int32) (n1 : Nat) (f1 : Nat → Int32) (I2 : Nat → Int32) (I3 : Nat → Int32) (n4 : Nat) (f4 : Nat → Int32) (n5 : Nat) (f5 : Nat → Int32) (x1 : Int32) (x2 : Int32) (x3 : Int32) (x5 : Int32) (s1 : Int32) (s2 : Int32) (k90 : (Nat → Int32) → (Nat → Int32) → (Nat → Int32) → Int32 → Prop) (Z : Int32 → (Nat → Int32) × (Nat → Int32) × (Nat → Int32) × (Nat → Int32) → Prop) : Prop :=
  (v_Code_add_0 I2 n4 f4 n5 f5 s1 s2 (fun u => (v_Reader_readFraction_115 I0 n1 f1 u.1 I3 n4 u.2.1 n5 u.2.2 x1 x2 x3 x5 k90 Z)))
def v_Reader_readFraction_173 (I0 : Nat → Int32) (n1 : Nat) (f1 : Nat → Int32) (I2 : Nat → Int32) (I3 : Nat → Int32) (n4 : Nat) (f4 : Nat → Int32) (n5 : Nat) (f5 : Nat → Int32) (x1 : Int32) (x2 : Int32) (x3 : Int32) (x5 : Int32) (s1 : Int32) (s2 : Int32) (k124 : (Nat → Int32) → (Nat → Int32) → (Nat → Int32) → (Nat → Int32) → Int32 → Prop) (Z : Int32 → (Nat → Int32) × (Nat → Int32) × (Nat → Int32) × (Nat → Int32) → Prop) : Prop :=
  (k124 I2 (zu I3 12 (s1 + (s2 - (48 : Int32)))) f4 f5 (x5 + (1 : Int32)))
def v_Reader_readFraction_149 (I0 : Nat → Int32) (n1 : Nat) (f1 : Nat → Int32) (I2 : Nat → Int32) (I3 : Nat → Int32) (n4 : Nat) (f4 : Nat → Int32) (n5 : Nat) (f5 : Nat → Int32) (x1 : Int32) (x2 : Int32) (x3 : Int32) (x5 : Int32) (k124 : (Nat → Int32) → (Nat → Int32) → (Nat → Int32) → (Nat → Int32) → Int32 → Prop) (Z : Int32 → (Nat → Int32) × (Nat → Int32) × (Nat → Int32) × (Nat → Int32) → Prop) : Prop :=
  (v_Reader_sign_0 I0 n1 f1 ((x1 + (1 : Int32)) + x5) (fun r u => (v_Reader_readFraction_173 I0 n1 f1 I2 I3 n4 f4 n5 f5 x1 x2 x3 x5 ((I3 12) * (10 : Int32)) r k124 Z)))
def v_Reader_readFraction_146 (I0 : Nat → Int32) (n1 : Nat) (f1 : Nat → Int32) (I2 : Nat → Int32) (I3 : Nat → Int32) (n4 : Nat) (f4 : Nat → Int32) (n5 : Nat) (f5 : Nat → Int32) (x1 : Int32) (x2 : Int32) (x3 : Int32) (x5 : Int32) (s1 : Int32) (s2 : Int32) (k124 : (Nat → Int32) → (Nat → Int32) → (Nat → Int32) → (Nat → Int32) → Int32 → Prop) (Z : Int32 → (Nat → Int32) × (Nat → Int32) × (Nat → Int32) × (Nat → Int32) → Prop) : Prop :=
  (v_Code_add_0 I2 n4 f4 n5 f5 s1 s2 (fun u => (v_Reader_readFraction_149 I0 n1 f1 u.1 I3 n4 u.2.1 n5 u.2.2 x1 x2 x3 x5 k124 Z)))
def v_Reader_readFraction_124 (I0 : Nat → Int32) (n1 : Nat) (f1 : Nat → Int32) (n4 : Nat) (n5 : Nat) (x1 : Int32) (x2 : Int32) (x3 : Int32)  (Z : Int32 → (Nat → Int32) × (Nat → Int32) × (Nat → Int32) × (Nat → Int32) → Prop) : Nat → (Nat → Int32) → (Nat → Int32) → (Nat → Int32) → (Nat → Int32) → Int32 → Prop
  | 0 => fun _ _ _ _ _ => False
  | N + 1 => fun I2 I3 f4 f5 x5 => ((x3 ≤ x5 → (Z (((1 : Int32) + x2) + x3) (I2, (zu I3 11 x2), f4, f5))) ∧ (¬ x3 ≤ x5 → (v_Reader_sign_0 I0 n1 f1 ((x1 + (1 : Int32)) + x5) (fun r u => (v_Reader_readFraction_146 I0 n1 f1 I2 I3 n4 f4 n5 f5 x1 x2 x3 x5 (12 : Int32) r (v_Reader_readFraction_124 I0 n1 f1 n4 n5 x1 x2 x3  Z N) Z)))))
def v_Reader_readFraction_90 (I0 : Nat → Int32) (n1 : Nat) (f1 : Nat → Int32) (I3 : Nat → Int32) (n4 : Nat) (n5 : Nat) (x1 : Int32) (x2 : Int32) (x3 : Int32)  (Z : Int32 → (Nat → Int32) × (Nat → Int32) × (Nat → Int32) × (Nat → Int32) → Prop) : Nat → (Nat → Int32) → (Nat → Int32) → (Nat → Int32) → Int32 → Prop
  | 0 => fun _ _ _ _ => False
  | N + 1 => fun I2 f4 f5 x5 => ((x2 ≤ x5 → (∃ Nx, v_Reader_readFraction_124 I0 n1 f1 n4 n5 x1 x2 x3  Z Nx I2 I3 f4 f5 (0 : Int32))) ∧ (¬ x2 ≤ x5 → (v_Reader_sign_0 I0 n1 f1 ((x1 + (1 : Int32)) + x5) (fun r u => (v_Reader_readFraction_112 I0 n1 f1 I2 I3 n4 f4 n5 f5 x1 x2 x3 x5 (11 : Int32) r (v_Reader_readFraction_90 I0 n1 f1 I3 n4 n5 x1 x2 x3  Z N) Z)))))
def v_Reader_readFraction_87 (I0 : Nat → Int32) (n1 : Nat) (f1 : Nat → Int32) (I2 : Nat → Int32) (I3 : Nat → Int32) (n4 : Nat) (f4 : Nat → Int32) (n5 : Nat) (f5 : Nat → Int32) (x1 : Int32) (x2 : Int32) (x3 : Int32)  (Z : Int32 → (Nat → Int32) × (Nat → Int32) × (Nat → Int32) × (Nat → Int32) → Prop) : Prop :=
  (∃ Nx, v_Reader_readFraction_90 I0 n1 f1 I3 n4 n5 x1 x2 x3  Z Nx I2 f4 f5 (0 : Int32))
def v_Reader_readFraction_76 (I0 : Nat → Int32) (n1 : Nat) (f1 : Nat → Int32) (I2 : Nat → Int32) (I3 : Nat → Int32) (n4 : Nat) (f4 : Nat → Int32) (n5 : Nat) (f5 : Nat → Int32) (x1 : Int32) (x2 : Int32) (x3 : Int32)  (Z : Int32 → (Nat → Int32) × (Nat → Int32) × (Nat → Int32) × (Nat → Int32) → Prop) : Prop :=
  (v_Code_add_0 I2 n4 f4 n5 f5 (10 : Int32) (47 : Int32) (fun u => (v_Reader_readFraction_87 I0 n1 f1 u.1 I3 n4 u.2.1 n5 u.2.2 x1 x2 x3  Z)))
def v_Reader_readFraction_49 (I0 : Nat → Int32) (n1 : Nat) (f1 : Nat → Int32) (I2 : Nat → Int32) (I3 : Nat → Int32) (n4 : Nat) (f4 : Nat → Int32) (n5 : Nat) (f5 : Nat → Int32) (x1 : Int32) (x2 : Int32) (x3 : Int32) (s0 : Int32)  (Z : Int32 → (Nat → Int32) × (Nat → Int32) × (Nat → Int32) × (Nat → Int32) → Prop) : Prop :=
  ((s0 = 0 → (Z (0 : Int32) (I2, I3, f4, f5))) ∧ (¬ s0 = 0 → ((¬ (x2 + x3) = 0 → (v_Reader_makeNumerator_0 I0 I2 (zu I3 0 (4 : Int32)) n4 f4 (fun u => (v_Reader_readFraction_76 I0 n1 f1 I2 u.1 n4 u.2 n5 f5 x1 x2 x3  Z)))) ∧ ((x2 + x3) = 0 → (Z (0 : Int32) (I2, I3, f4, f5))))))
def v_Reader_readFraction_48 (I0 : Nat → Int32) (n1 : Nat) (f1 : Nat → Int32) (I2 : Nat → Int32) (I3 : Nat → Int32) (n4 : Nat) (f4 : Nat → Int32) (n5 : Nat) (f5 : Nat → Int32) (x1 : Int32) (x2 : Int32) (x3 : Int32)  (Z : Int32 → (Nat → Int32) × (Nat → Int32) × (Nat → Int32) × (Nat → Int32) → Prop) : Prop :=
  (v_Reader_readFraction_49 I0 n1 f1 I2 I3 n4 f4 n5 f5 x1 x2 x3 (0 : Int32)  Z)
def v_Reader_readFraction_31 (I0 : Nat → Int32) (n1 : Nat) (f1 : Nat → Int32) (I2 : Nat → Int32) (I3 : Nat → Int32) (n4 : Nat) (f4 : Nat → Int32) (n5 : Nat) (f5 : Nat → Int32) (x1 : Int32) (x2 : Int32) (x3 : Int32) (s0 : Int32)  (Z : Int32 → (Nat → Int32) × (Nat → Int32) × (Nat → Int32) × (Nat → Int32) → Prop) : Prop :=
  ((¬ s0 = 0 → (v_Reader_readFraction_48 I0 n1 f1 I2 I3 n4 f4 n5 f5 x1 x2 x3  Z)) ∧ (s0 = 0 → ((¬ (I3 5) = 0 → (v_Reader_readFraction_48 I0 n1 f1 I2 I3 n4 f4 n5 f5 x1 x2 x3  Z)) ∧ ((I3 5) = 0 → (v_Reader_readFraction_49 I0 n1 f1 I2 I3 n4 f4 n5 f5 x1 x2 x3 (1 : Int32)  Z)))))
def v_Reader_readFraction_20 (I0 : Nat → Int32) (n1 : Nat) (f1 : Nat → Int32) (I2 : Nat → Int32) (I3 : Nat → Int32) (n4 : Nat) (f4 : Nat → Int32) (n5 : Nat) (f5 : Nat → Int32) (x1 : Int32) (x2 : Int32) (x3 : Int32) (s0 : Int32)  (Z : Int32 → (Nat → Int32) × (Nat → Int32) × (Nat → Int32) × (Nat → Int32) → Prop) : Prop :=
  ((¬ s0 = (2 : Int32) → (v_Reader_readFraction_48 I0 n1 f1 I2 I3 n4 f4 n5 f5 x1 x2 x3  Z)) ∧ (s0 = (2 : Int32) → (v_Section_hasCommaOrPercent_0 I3 (fun r u => (v_Reader_readFraction_31 I0 n1 f1 I2 I3 n4 f4 n5 f5 x1 x2 x3 r  Z)))))
def v_Reader_readFraction_15 (I0 : Nat → Int32) (n1 : Nat) (f1 : Nat → Int32) (I2 : Nat → Int32) (I3 : Nat → Int32) (n4 : Nat) (f4 : Nat → Int32) (n5 : Nat) (f5 : Nat → Int32) (x1 : Int32) (x2 : Int32) (s0 : Int32)  (Z : Int32 → (Nat → Int32) × (Nat → Int32) × (Nat → Int32) × (Nat → Int32) → Prop) : Prop :=
  (v_Reader_kindBefore_0 I0 I2 I3 n4 f4 (fun r u => (v_Reader_readFraction_20 I0 n1 f1 I2 I3 n4 f4 n5 f5 x1 x2 s0 r  Z)))
def v_Reader_readFraction_7 (I0 : Nat → Int32) (n1 : Nat) (f1 : Nat → Int32) (I2 : Nat → Int32) (I3 : Nat → Int32) (n4 : Nat) (f4 : Nat → Int32) (n5 : Nat) (f5 : Nat → Int32) (x1 : Int32) (s0 : Int32)  (Z : Int32 → (Nat → Int32) × (Nat → Int32) × (Nat → Int32) × (Nat → Int32) → Prop) : Prop :=
  (v_Reader_digitsFrom_0 I0 n1 f1 (x1 + (1 : Int32)) (fun r u => (v_Reader_readFraction_15 I0 n1 f1 I2 I3 n4 f4 n5 f5 x1 s0 r  Z)))
def v_Reader_readFraction_0 (I0 : Nat → Int32) (n1 : Nat) (f1 : Nat → Int32) (I2 : Nat → Int32) (I3 : Nat → Int32) (n4 : Nat) (f4 : Nat → Int32) (n5 : Nat) (f5 : Nat → Int32) (x1 : Int32)  (Z : Int32 → (Nat → Int32) × (Nat → Int32) × (Nat → Int32) × (Nat → Int32) → Prop) : Prop :=
  (v_Reader_placesFrom_0 I0 n1 f1 (x1 + (1 : Int32)) (fun r u => (v_Reader_readFraction_7 I0 n1 f1 I2 I3 n4 f4 n5 f5 x1 r  Z)))
def v_Reader_readPlace_29 (I0 : Nat → Int32) (I1 : Nat → Int32) (I2 : Nat → Int32) (n3 : Nat) (f3 : Nat → Int32) (n4 : Nat) (f4 : Nat → Int32) (s0 : Int32)  (Z : Int32 → (Nat → Int32) × (Nat → Int32) × (Nat → Int32) × (Nat → Int32) → Prop) : Prop :=
  (Z s0 (I1, I2, f3, f4))
def v_Reader_readPlace_61 (I0 : Nat → Int32) (I1 : Nat → Int32) (I2 : Nat → Int32) (n3 : Nat) (f3 : Nat → Int32) (n4 : Nat) (f4 : Nat → Int32) (s0 : Int32)  (Z : Int32 → (Nat → Int32) × (Nat → Int32) × (Nat → Int32) × (Nat → Int32) → Prop) : Prop :=
  (Z s0 (I1, I2, f3, f4))
def v_Reader_readPlace_0 (I0 : Nat → Int32) (I1 : Nat → Int32) (I2 : Nat → Int32) (n3 : Nat) (f3 : Nat → Int32) (n4 : Nat) (f4 : Nat → Int32) (x1 : Int32)  (Z : Int32 → (Nat → Int32) × (Nat → Int32) × (Nat → Int32) × (Nat → Int32) → Prop) : Prop :=
  (((I1 5) = 0 → (((I1 7) ≤ 0 → (v_Reader_addOne_0 I0 I2 n3 f3 n4 f4 (2 : Int32) x1 (fun r u => (v_Reader_readPlace_61 I0 (zu I1 3 ((I1 3) + (1 : Int32))) u.1 n3 u.2.1 n4 u.2.2 r  Z)))) ∧ (¬ (I1 7) ≤ 0 → (Z (0 : Int32) (I1, I2, f3, f4))))) ∧ (¬ (I1 5) = 0 → (v_Reader_addOne_0 I0 I2 n3 f3 n4 f4 (3 : Int32) x1 (fun r u => (v_Reader_readPlace_29 I0 (zu I1 4 ((I1 4) + (1 : Int32))) u.1 n3 u.2.1 n4 u.2.2 r  Z)))))
def v_Reader_readPoint_27 (I0 : Nat → Int32) (I1 : Nat → Int32) (I2 : Nat → Int32) (n3 : Nat) (f3 : Nat → Int32) (n4 : Nat) (f4 : Nat → Int32) (s0 : Int32)  (Z : Int32 → (Nat → Int32) × (Nat → Int32) × (Nat → Int32) × (Nat → Int32) → Prop) : Prop :=
  (Z s0 (I1, I2, f3, f4))
def v_Reader_readPoint_0 (I0 : Nat → Int32) (I1 : Nat → Int32) (I2 : Nat → Int32) (n3 : Nat) (f3 : Nat → Int32) (n4 : Nat) (f4 : Nat → Int32)  (Z : Int32 → (Nat → Int32) × (Nat → Int32) × (Nat → Int32) × (Nat → Int32) → Prop) : Prop :=
  (((I1 5) = 0 → (v_Reader_addOne_0 I0 I2 n3 f3 n4 f4 (4 : Int32) (46 : Int32) (fun r u => (v_Reader_readPoint_27 I0 (zu I1 5 (1 : Int32)) u.1 n3 u.2.1 n4 u.2.2 r  Z)))) ∧ (¬ (I1 5) = 0 → (Z (0 : Int32) (I1, I2, f3, f4))))
def v_Reader_readPower_141 (I0 : Nat → Int32) (I1 : Nat → Int32) (I2 : Nat → Int32) (n3 : Nat) (f3 : Nat → Int32) (n4 : Nat) (f4 : Nat → Int32) (n5 : Nat) (f5 : Nat → Int32) (x1 : Int32) (x4 : Int32) (x7 : Int32) (k115 : (Nat → Int32) → (Nat → Int32) → (Nat → Int32) → Int32 → Prop) (Z : Int32 → (Nat → Int32) × (Nat → Int32) × (Nat → Int32) × (Nat → Int32) → Prop) : Prop :=
  (k115 I1 f3 f5 (x7 + (1 : Int32)))
def v_Reader_readPower_138 (I0 : Nat → Int32) (I1 : Nat → Int32) (I2 : Nat → Int32) (n3 : Nat) (f3 : Nat → Int32) (n4 : Nat) (f4 : Nat → Int32) (n5 : Nat) (f5 : Nat → Int32) (x1 : Int32) (x4 : Int32) (x7 : Int32) (s1 : Int32) (s2 : Int32) (k115 : (Nat → Int32) → (Nat → Int32) → (Nat → Int32) → Int32 → Prop) (Z : Int32 → (Nat → Int32) × (Nat → Int32) × (Nat → Int32) × (Nat → Int32) → Prop) : Prop :=
  (v_Code_add_0 I1 n3 f3 n5 f5 s1 s2 (fun u => (v_Reader_readPower_141 I0 u.1 I2 n3 u.2.1 n4 f4 n5 u.2.2 x1 x4 x7 k115 Z)))
def v_Reader_readPower_115 (I0 : Nat → Int32) (I2 : Nat → Int32) (n3 : Nat) (n4 : Nat) (f4 : Nat → Int32) (n5 : Nat) (x1 : Int32) (x4 : Int32)  (Z : Int32 → (Nat → Int32) × (Nat → Int32) × (Nat → Int32) × (Nat → Int32) → Prop) : Nat → (Nat → Int32) → (Nat → Int32) → (Nat → Int32) → Int32 → Prop
  | 0 => fun _ _ _ _ => False
  | N + 1 => fun I1 f3 f5 x7 => ((x4 ≤ x7 → (Z ((2 : Int32) + x4) (I1, I2, f3, f5))) ∧ (¬ x4 ≤ x7 → (v_Reader_sign_0 I0 n4 f4 ((x1 + (2 : Int32)) + x7) (fun r u => (v_Reader_readPower_138 I0 I1 I2 n3 f3 n4 f4 n5 f5 x1 x4 x7 (8 : Int32) r (v_Reader_readPower_115 I0 I2 n3 n4 f4 n5 x1 x4  Z N) Z)))))
def v_Reader_readPower_112 (I0 : Nat → Int32) (I1 : Nat → Int32) (I2 : Nat → Int32) (n3 : Nat) (f3 : Nat → Int32) (n4 : Nat) (f4 : Nat → Int32) (n5 : Nat) (f5 : Nat → Int32) (x1 : Int32) (x4 : Int32)  (Z : Int32 → (Nat → Int32) × (Nat → Int32) × (Nat → Int32) × (Nat → Int32) → Prop) : Prop :=
  (∃ Nx, v_Reader_readPower_115 I0 I2 n3 n4 f4 n5 x1 x4  Z Nx I1 f3 f5 (0 : Int32))
def v_Reader_readPower_71 (I0 : Nat → Int32) (I1 : Nat → Int32) (I2 : Nat → Int32) (n3 : Nat) (f3 : Nat → Int32) (n4 : Nat) (f4 : Nat → Int32) (n5 : Nat) (f5 : Nat → Int32) (x1 : Int32) (x3 : Int32) (x4 : Int32) (x5 : Int32) (s0 : Int32)  (Z : Int32 → (Nat → Int32) × (Nat → Int32) × (Nat → Int32) × (Nat → Int32) → Prop) : Prop :=
  ((x5 = 0 → (Z (0 : Int32) (I1, I2, f3, f5))) ∧ (¬ x5 = 0 → ((¬ s0 = 0 → (v_Code_add_0 I1 n3 f3 n5 f5 (7 : Int32) x3 (fun u => (v_Reader_readPower_112 I0 u.1 (zu (zu I2 0 (3 : Int32)) 9 x4) n3 u.2.1 n4 f4 n5 u.2.2 x1 x4  Z)))) ∧ (s0 = 0 → (Z (0 : Int32) (I1, I2, f3, f5))))))
def v_Reader_readPower_70 (I0 : Nat → Int32) (I1 : Nat → Int32) (I2 : Nat → Int32) (n3 : Nat) (f3 : Nat → Int32) (n4 : Nat) (f4 : Nat → Int32) (n5 : Nat) (f5 : Nat → Int32) (x1 : Int32) (x3 : Int32) (x4 : Int32) (x5 : Int32)  (Z : Int32 → (Nat → Int32) × (Nat → Int32) × (Nat → Int32) × (Nat → Int32) → Prop) : Prop :=
  (v_Reader_readPower_71 I0 I1 I2 n3 f3 n4 f4 n5 f5 x1 x3 x4 x5 (0 : Int32)  Z)
def v_Reader_readPower_63 (I0 : Nat → Int32) (I1 : Nat → Int32) (I2 : Nat → Int32) (n3 : Nat) (f3 : Nat → Int32) (n4 : Nat) (f4 : Nat → Int32) (n5 : Nat) (f5 : Nat → Int32) (x1 : Int32) (x3 : Int32) (x4 : Int32) (x5 : Int32) (s0 : Int32)  (Z : Int32 → (Nat → Int32) × (Nat → Int32) × (Nat → Int32) × (Nat → Int32) → Prop) : Prop :=
  ((¬ s0 = 0 → (v_Reader_readPower_70 I0 I1 I2 n3 f3 n4 f4 n5 f5 x1 x3 x4 x5  Z)) ∧ (s0 = 0 → (v_Reader_readPower_71 I0 I1 I2 n3 f3 n4 f4 n5 f5 x1 x3 x4 x5 (1 : Int32)  Z)))
def v_Reader_readPower_56 (I0 : Nat → Int32) (I1 : Nat → Int32) (I2 : Nat → Int32) (n3 : Nat) (f3 : Nat → Int32) (n4 : Nat) (f4 : Nat → Int32) (n5 : Nat) (f5 : Nat → Int32) (x1 : Int32) (x3 : Int32) (x4 : Int32) (x5 : Int32)  (Z : Int32 → (Nat → Int32) × (Nat → Int32) × (Nat → Int32) × (Nat → Int32) → Prop) : Prop :=
  (v_Section_hasCommaOrPercent_0 I2 (fun r u => (v_Reader_readPower_63 I0 I1 I2 n3 f3 n4 f4 n5 f5 x1 x3 x4 x5 r  Z)))
def v_Reader_readPower_44 (I0 : Nat → Int32) (I1 : Nat → Int32) (I2 : Nat → Int32) (n3 : Nat) (f3 : Nat → Int32) (n4 : Nat) (f4 : Nat → Int32) (n5 : Nat) (f5 : Nat → Int32) (x1 : Int32) (x2 : Int32) (x3 : Int32) (x4 : Int32) (s0 : Int32)  (Z : Int32 → (Nat → Int32) × (Nat → Int32) × (Nat → Int32) × (Nat → Int32) → Prop) : Prop :=
  ((x2 = (2 : Int32) → (v_Reader_readPower_56 I0 I1 I2 n3 f3 n4 f4 n5 f5 x1 x3 x4 s0  Z)) ∧ (¬ x2 = (2 : Int32) → ((¬ x2 = (3 : Int32) → (v_Reader_readPower_70 I0 I1 I2 n3 f3 n4 f4 n5 f5 x1 x3 x4 s0  Z)) ∧ (x2 = (3 : Int32) → (v_Reader_readPower_56 I0 I1 I2 n3 f3 n4 f4 n5 f5 x1 x3 x4 s0  Z)))))
def v_Reader_readPower_43 (I0 : Nat → Int32) (I1 : Nat → Int32) (I2 : Nat → Int32) (n3 : Nat) (f3 : Nat → Int32) (n4 : Nat) (f4 : Nat → Int32) (n5 : Nat) (f5 : Nat → Int32) (x1 : Int32) (x2 : Int32) (x3 : Int32) (x4 : Int32)  (Z : Int32 → (Nat → Int32) × (Nat → Int32) × (Nat → Int32) × (Nat → Int32) → Prop) : Prop :=
  (v_Reader_readPower_44 I0 I1 I2 n3 f3 n4 f4 n5 f5 x1 x2 x3 x4 (0 : Int32)  Z)
def v_Reader_readPower_34 (I0 : Nat → Int32) (I1 : Nat → Int32) (I2 : Nat → Int32) (n3 : Nat) (f3 : Nat → Int32) (n4 : Nat) (f4 : Nat → Int32) (n5 : Nat) (f5 : Nat → Int32) (x1 : Int32) (x2 : Int32) (x3 : Int32) (x4 : Int32)  (Z : Int32 → (Nat → Int32) × (Nat → Int32) × (Nat → Int32) × (Nat → Int32) → Prop) : Prop :=
  ((x4 ≤ 0 → (v_Reader_readPower_43 I0 I1 I2 n3 f3 n4 f4 n5 f5 x1 x2 x3 x4  Z)) ∧ (¬ x4 ≤ 0 → (v_Reader_readPower_44 I0 I1 I2 n3 f3 n4 f4 n5 f5 x1 x2 x3 x4 (1 : Int32)  Z)))
def v_Reader_readPower_20 (I0 : Nat → Int32) (I1 : Nat → Int32) (I2 : Nat → Int32) (n3 : Nat) (f3 : Nat → Int32) (n4 : Nat) (f4 : Nat → Int32) (n5 : Nat) (f5 : Nat → Int32) (x1 : Int32) (x2 : Int32) (x3 : Int32) (s0 : Int32)  (Z : Int32 → (Nat → Int32) × (Nat → Int32) × (Nat → Int32) × (Nat → Int32) → Prop) : Prop :=
  ((x3 = (43 : Int32) → (v_Reader_readPower_34 I0 I1 I2 n3 f3 n4 f4 n5 f5 x1 x2 x3 s0  Z)) ∧ (¬ x3 = (43 : Int32) → ((¬ x3 = (45 : Int32) → (v_Reader_readPower_43 I0 I1 I2 n3 f3 n4 f4 n5 f5 x1 x2 x3 s0  Z)) ∧ (x3 = (45 : Int32) → (v_Reader_readPower_34 I0 I1 I2 n3 f3 n4 f4 n5 f5 x1 x2 x3 s0  Z)))))
def v_Reader_readPower_12 (I0 : Nat → Int32) (I1 : Nat → Int32) (I2 : Nat → Int32) (n3 : Nat) (f3 : Nat → Int32) (n4 : Nat) (f4 : Nat → Int32) (n5 : Nat) (f5 : Nat → Int32) (x1 : Int32) (x2 : Int32) (s0 : Int32)  (Z : Int32 → (Nat → Int32) × (Nat → Int32) × (Nat → Int32) × (Nat → Int32) → Prop) : Prop :=
  (v_Reader_placesFrom_0 I0 n4 f4 (x1 + (2 : Int32)) (fun r u => (v_Reader_readPower_20 I0 I1 I2 n3 f3 n4 f4 n5 f5 x1 x2 s0 r  Z)))
def v_Reader_readPower_4 (I0 : Nat → Int32) (I1 : Nat → Int32) (I2 : Nat → Int32) (n3 : Nat) (f3 : Nat → Int32) (n4 : Nat) (f4 : Nat → Int32) (n5 : Nat) (f5 : Nat → Int32) (x1 : Int32) (s0 : Int32)  (Z : Int32 → (Nat → Int32) × (Nat → Int32) × (Nat → Int32) × (Nat → Int32) → Prop) : Prop :=
  (v_Reader_sign_0 I0 n4 f4 (x1 + (1 : Int32)) (fun r u => (v_Reader_readPower_12 I0 I1 I2 n3 f3 n4 f4 n5 f5 x1 s0 r  Z)))
def v_Reader_readPower_0 (I0 : Nat → Int32) (I1 : Nat → Int32) (I2 : Nat → Int32) (n3 : Nat) (f3 : Nat → Int32) (n4 : Nat) (f4 : Nat → Int32) (n5 : Nat) (f5 : Nat → Int32) (x1 : Int32)  (Z : Int32 → (Nat → Int32) × (Nat → Int32) × (Nat → Int32) × (Nat → Int32) → Prop) : Prop :=
  (v_Reader_kindBefore_0 I0 I1 I2 n3 f3 (fun r u => (v_Reader_readPower_4 I0 I1 I2 n3 f3 n4 f4 n5 f5 x1 r  Z)))
def v_Reader_readNumberItem_116 (I0 : Nat → Int32) (n1 : Nat) (f1 : Nat → Int32) (I2 : Nat → Int32) (I3 : Nat → Int32) (n4 : Nat) (f4 : Nat → Int32) (n5 : Nat) (f5 : Nat → Int32) (s0 : Int32)  (Z : Int32 → (Nat → Int32) × (Nat → Int32) × (Nat → Int32) × (Nat → Int32) → Prop) : Prop :=
  (Z s0 (I2, I3, f4, f5))
def v_Reader_readNumberItem_122 (I0 : Nat → Int32) (n1 : Nat) (f1 : Nat → Int32) (I2 : Nat → Int32) (I3 : Nat → Int32) (n4 : Nat) (f4 : Nat → Int32) (n5 : Nat) (f5 : Nat → Int32) (s0 : Int32)  (Z : Int32 → (Nat → Int32) × (Nat → Int32) × (Nat → Int32) × (Nat → Int32) → Prop) : Prop :=
  (Z s0 (I2, I3, f4, f5))
def v_Reader_readNumberItem_128 (I0 : Nat → Int32) (n1 : Nat) (f1 : Nat → Int32) (I2 : Nat → Int32) (I3 : Nat → Int32) (n4 : Nat) (f4 : Nat → Int32) (n5 : Nat) (f5 : Nat → Int32) (s0 : Int32)  (Z : Int32 → (Nat → Int32) × (Nat → Int32) × (Nat → Int32) × (Nat → Int32) → Prop) : Prop :=
  (Z s0 (I2, I3, f4, f5))
def v_Reader_readNumberItem_85 (I0 : Nat → Int32) (n1 : Nat) (f1 : Nat → Int32) (I2 : Nat → Int32) (I3 : Nat → Int32) (n4 : Nat) (f4 : Nat → Int32) (n5 : Nat) (f5 : Nat → Int32) (s0 : Int32)  (Z : Int32 → (Nat → Int32) × (Nat → Int32) × (Nat → Int32) × (Nat → Int32) → Prop) : Prop :=
  (Z s0 (I2, I3, f4, f5))
def v_Reader_readNumberItem_90 (I0 : Nat → Int32) (n1 : Nat) (f1 : Nat → Int32) (I2 : Nat → Int32) (I3 : Nat → Int32) (n4 : Nat) (f4 : Nat → Int32) (n5 : Nat) (f5 : Nat → Int32) (s0 : Int32)  (Z : Int32 → (Nat → Int32) × (Nat → Int32) × (Nat → Int32) × (Nat → Int32) → Prop) : Prop :=
  (Z s0 (I2, I3, f4, f5))
def v_Reader_readNumberItem_96 (I0 : Nat → Int32) (n1 : Nat) (f1 : Nat → Int32) (I2 : Nat → Int32) (I3 : Nat → Int32) (n4 : Nat) (f4 : Nat → Int32) (n5 : Nat) (f5 : Nat → Int32) (s0 : Int32)  (Z : Int32 → (Nat → Int32) × (Nat → Int32) × (Nat → Int32) × (Nat → Int32) → Prop) : Prop :=
  (Z s0 (I2, I3, f4, f5))
def v_Reader_readNumberItem_5 (I0 : Nat → Int32) (n1 : Nat) (f1 : Nat → Int32) (I2 : Nat → Int32) (I3 : Nat → Int32) (n4 : Nat) (f4 : Nat → Int32) (n5 : Nat) (f5 : Nat → Int32) (x1 : Int32) (s0 : Int32)  (Z : Int32 → (Nat → Int32) × (Nat → Int32) × (Nat → Int32) × (Nat → Int32) → Prop) : Prop :=
  ((s0 = (35 : Int32) → (v_Reader_readPlace_0 I0 I2 I3 n4 f4 n5 f5 s0 (fun r u => (v_Reader_readNumberItem_85 I0 n1 f1 u.1 u.2.1 n4 u.2.2.1 n5 u.2.2.2 r  Z)))) ∧ (¬ s0 = (35 : Int32) → ((s0 = (37 : Int32) → (v_Reader_addOne_0 I0 I3 n4 f4 n5 f5 (1 : Int32) s0 (fun r u => (v_Reader_readNumberItem_116 I0 n1 f1 (zu I2 8 ((I2 8) + (1 : Int32))) u.1 n4 u.2.1 n5 u.2.2 r  Z)))) ∧ (¬ s0 = (37 : Int32) → ((s0 = (44 : Int32) → (v_Reader_readComma_0 I0 I3 I2 n4 f4 n1 f1 n5 f5 x1 (fun r u => (v_Reader_readNumberItem_96 I0 n1 f1 u.2.1 u.1 n4 u.2.2.1 n5 u.2.2.2 r  Z)))) ∧ (¬ s0 = (44 : Int32) → ((s0 = (46 : Int32) → (v_Reader_readPoint_0 I0 I2 I3 n4 f4 n5 f5 (fun r u => (v_Reader_readNumberItem_90 I0 n1 f1 u.1 u.2.1 n4 u.2.2.1 n5 u.2.2.2 r  Z)))) ∧ (¬ s0 = (46 : Int32) → ((s0 = (47 : Int32) → (v_Reader_readFraction_0 I0 n1 f1 I3 I2 n4 f4 n5 f5 x1 (fun r u => (v_Reader_readNumberItem_128 I0 n1 f1 u.2.1 u.1 n4 u.2.2.1 n5 u.2.2.2 r  Z)))) ∧ (¬ s0 = (47 : Int32) → ((s0 = (48 : Int32) → (v_Reader_readPlace_0 I0 I2 I3 n4 f4 n5 f5 s0 (fun r u => (v_Reader_readNumberItem_85 I0 n1 f1 u.1 u.2.1 n4 u.2.2.1 n5 u.2.2.2 r  Z)))) ∧ (¬ s0 = (48 : Int32) → ((s0 = (63 : Int32) → (v_Reader_readPlace_0 I0 I2 I3 n4 f4 n5 f5 s0 (fun r u => (v_Reader_readNumberItem_85 I0 n1 f1 u.1 u.2.1 n4 u.2.2.1 n5 u.2.2.2 r  Z)))) ∧ (¬ s0 = (63 : Int32) → ((s0 = (101 : Int32) → (v_Reader_readPower_0 I0 I3 I2 n4 f4 n1 f1 n5 f5 x1 (fun r u => (v_Reader_readNumberItem_122 I0 n1 f1 u.2.1 u.1 n4 u.2.2.1 n5 u.2.2.2 r  Z)))) ∧ (¬ s0 = (101 : Int32) → (Z (0 : Int32) (I2, I3, f4, f5))))))))))))))))))
def v_Reader_readNumberItem_0 (I0 : Nat → Int32) (n1 : Nat) (f1 : Nat → Int32) (I2 : Nat → Int32) (I3 : Nat → Int32) (n4 : Nat) (f4 : Nat → Int32) (n5 : Nat) (f5 : Nat → Int32) (x1 : Int32)  (Z : Int32 → (Nat → Int32) × (Nat → Int32) × (Nat → Int32) × (Nat → Int32) → Prop) : Prop :=
  (v_Reader_small_0 I0 n1 f1 x1 (fun r u => (v_Reader_readNumberItem_5 I0 n1 f1 I2 I3 n4 f4 n5 f5 x1 r  Z)))
def v_Reader_readItem_108 (I0 : Nat → Int32) (n1 : Nat) (f1 : Nat → Int32) (I2 : Nat → Int32) (I3 : Nat → Int32) (n4 : Nat) (f4 : Nat → Int32) (n5 : Nat) (f5 : Nat → Int32) (s0 : Int32)  (Z : Int32 → (Nat → Int32) × (Nat → Int32) × (Nat → Int32) × (Nat → Int32) → Prop) : Prop :=
  (Z s0 (I2, I3, f4, f5))
def v_Reader_readItem_16 (I0 : Nat → Int32) (n1 : Nat) (f1 : Nat → Int32) (I2 : Nat → Int32) (I3 : Nat → Int32) (n4 : Nat) (f4 : Nat → Int32) (n5 : Nat) (f5 : Nat → Int32) (x2 : Int32)  (Z : Int32 → (Nat → Int32) × (Nat → Int32) × (Nat → Int32) × (Nat → Int32) → Prop) : Prop :=
  (Z x2 (I2, I3, f4, f5))
def v_Reader_readItem_69 (I0 : Nat → Int32) (n1 : Nat) (f1 : Nat → Int32) (I2 : Nat → Int32) (I3 : Nat → Int32) (n4 : Nat) (f4 : Nat → Int32) (n5 : Nat) (f5 : Nat → Int32) (s0 : Int32)  (Z : Int32 → (Nat → Int32) × (Nat → Int32) × (Nat → Int32) × (Nat → Int32) → Prop) : Prop :=
  (Z s0 (I2, I3, f4, f5))
def v_Reader_readItem_75 (I0 : Nat → Int32) (n1 : Nat) (f1 : Nat → Int32) (I2 : Nat → Int32) (I3 : Nat → Int32) (n4 : Nat) (f4 : Nat → Int32) (n5 : Nat) (f5 : Nat → Int32) (s0 : Int32)  (Z : Int32 → (Nat → Int32) × (Nat → Int32) × (Nat → Int32) × (Nat → Int32) → Prop) : Prop :=
  (Z s0 (I2, I3, f4, f5))
def v_Reader_readItem_102 (I0 : Nat → Int32) (n1 : Nat) (f1 : Nat → Int32) (I2 : Nat → Int32) (I3 : Nat → Int32) (n4 : Nat) (f4 : Nat → Int32) (n5 : Nat) (f5 : Nat → Int32) (s0 : Int32)  (Z : Int32 → (Nat → Int32) × (Nat → Int32) × (Nat → Int32) × (Nat → Int32) → Prop) : Prop :=
  (Z s0 (I2, I3, f4, f5))
def v_Reader_readItem_94 (I0 : Nat → Int32) (n1 : Nat) (f1 : Nat → Int32) (I2 : Nat → Int32) (I3 : Nat → Int32) (n4 : Nat) (f4 : Nat → Int32) (n5 : Nat) (f5 : Nat → Int32) (s0 : Int32)  (Z : Int32 → (Nat → Int32) × (Nat → Int32) × (Nat → Int32) × (Nat → Int32) → Prop) : Prop :=
  (v_Reader_readItem_102 I0 n1 f1 I2 I3 n4 f4 n5 f5 s0  Z)
def v_Reader_readItem_81 (I0 : Nat → Int32) (n1 : Nat) (f1 : Nat → Int32) (I2 : Nat → Int32) (I3 : Nat → Int32) (n4 : Nat) (f4 : Nat → Int32) (n5 : Nat) (f5 : Nat → Int32) (x1 : Int32) (s0 : Int32)  (Z : Int32 → (Nat → Int32) × (Nat → Int32) × (Nat → Int32) × (Nat → Int32) → Prop) : Prop :=
  ((¬ s0 = (64 : Int32) → (v_Reader_readSign_0 I0 n1 f1 I3 n4 f4 n5 f5 x1 (fun r u => (v_Reader_readItem_102 I0 n1 f1 I2 u.1 n4 u.2.1 n5 u.2.2 r  Z)))) ∧ (s0 = (64 : Int32) → (v_Reader_addOne_0 I0 I3 n4 f4 n5 f5 (13 : Int32) (64 : Int32) (fun r u => (v_Reader_readItem_94 I0 n1 f1 I2 u.1 n4 u.2.1 n5 u.2.2 r  Z)))))
def v_Reader_readItem_5 (I0 : Nat → Int32) (n1 : Nat) (f1 : Nat → Int32) (I2 : Nat → Int32) (I3 : Nat → Int32) (n4 : Nat) (f4 : Nat → Int32) (n5 : Nat) (f5 : Nat → Int32) (x1 : Int32) (s0 : Int32)  (Z : Int32 → (Nat → Int32) × (Nat → Int32) × (Nat → Int32) × (Nat → Int32) → Prop) : Prop :=
  ((s0 ≤ 0 → (((I2 0) = (1 : Int32) → (v_Reader_readSign_0 I0 n1 f1 I3 n4 f4 n5 f5 x1 (fun r u => (v_Reader_readItem_108 I0 n1 f1 I2 u.1 n4 u.2.1 n5 u.2.2 r  Z)))) ∧ (¬ (I2 0) = (1 : Int32) → (((I2 0) = (2 : Int32) → (v_Reader_readNumberItem_0 I0 n1 f1 I2 I3 n4 f4 n5 f5 x1 (fun r u => (v_Reader_readItem_69 I0 n1 f1 u.1 u.2.1 n4 u.2.2.1 n5 u.2.2.2 r  Z)))) ∧ (¬ (I2 0) = (2 : Int32) → (((I2 0) = (3 : Int32) → (Z (0 : Int32) (I2, I3, f4, f5))) ∧ (¬ (I2 0) = (3 : Int32) → (((I2 0) = (4 : Int32) → (Z (0 : Int32) (I2, I3, f4, f5))) ∧ (¬ (I2 0) = (4 : Int32) → (((I2 0) = (5 : Int32) → (v_Reader_readDateItem_0 I0 n1 f1 I3 n4 f4 n5 f5 I2 x1 (fun r u => (v_Reader_readItem_75 I0 n1 f1 u.2.2.2 u.1 n4 u.2.1 n5 u.2.2.1 r  Z)))) ∧ (¬ (I2 0) = (5 : Int32) → (((I2 0) = (6 : Int32) → (v_Reader_sign_0 I0 n1 f1 x1 (fun r u => (v_Reader_readItem_81 I0 n1 f1 I2 I3 n4 f4 n5 f5 x1 r  Z)))) ∧ (¬ (I2 0) = (6 : Int32) → (Z (0 : Int32) (I2, I3, f4, f5))))))))))))))) ∧ (¬ s0 ≤ 0 → (v_Reader_addCommon_0 I0 n1 f1 I3 n4 f4 n5 f5 x1 s0 (fun u => (v_Reader_readItem_16 I0 n1 f1 I2 u.1 n4 u.2.1 n5 u.2.2 s0  Z)))))
def v_Reader_readItem_0 (I0 : Nat → Int32) (n1 : Nat) (f1 : Nat → Int32) (I2 : Nat → Int32) (I3 : Nat → Int32) (n4 : Nat) (f4 : Nat → Int32) (n5 : Nat) (f5 : Nat → Int32) (x1 : Int32)  (Z : Int32 → (Nat → Int32) × (Nat → Int32) × (Nat → Int32) × (Nat → Int32) → Prop) : Prop :=
  (v_Reader_commonLength_0 I0 n1 f1 x1 (fun r u => (v_Reader_readItem_5 I0 n1 f1 I2 I3 n4 f4 n5 f5 x1 r  Z)))
def v_Section_isBarredFromFourth_0 (I0 : Nat → Int32)  (Z : Int32 → Unit → Prop) : Prop :=
  (((I0 0) = (1 : Int32) → (Z (0 : Int32) ())) ∧ (¬ (I0 0) = (1 : Int32) → (((I0 0) = (6 : Int32) → (Z (0 : Int32) ())) ∧ (¬ (I0 0) = (6 : Int32) → (Z (1 : Int32) ())))))
def v_Reader_readSection_7 (I0 : Nat → Int32) (I1 : Nat → Int32) (I3 : Nat → Int32) (I4 : Nat → Int32) (I5 : Nat → Int32) (I6 : Nat → Int32) (n7 : Nat) (f7 : Nat → Int32) (n8 : Nat) (f8 : Nat → Int32) (n9 : Nat) (f9 : Nat → Int32) (x1 : Int32) (x2 : Int32) (x3 : Int32)  (Z : Int32 → (Nat → Int32) × (Nat → Int32) × (Nat → Int32) × (Nat → Int32) × (Nat → Int32) × (Nat → Int32) × (Nat → Int32) × (Nat → Int32) × Nat → Prop) : Prop :=
  False
def v_Reader_readSection_132 (I0 : Nat → Int32) (e0_3 : Nat) (I1 : Nat → Int32) (I3 : Nat → Int32) (I4 : Nat → Int32) (I5 : Nat → Int32) (I6 : Nat → Int32) (n7 : Nat) (f7 : Nat → Int32) (n8 : Nat) (f8 : Nat → Int32) (n9 : Nat) (f9 : Nat → Int32) (x3 : Int32) (x6 : Int32) (x7 : Int32) (s0 : Int32) (k102 : (Nat → Int32) → (Nat → Int32) → (Nat → Int32) → (Nat → Int32) → (Nat → Int32) → (Nat → Int32) → (Nat → Int32) → Int32 → Prop) (Z : Int32 → (Nat → Int32) × (Nat → Int32) × (Nat → Int32) × (Nat → Int32) × (Nat → Int32) × (Nat → Int32) × (Nat → Int32) × (Nat → Int32) × Nat → Prop) : Prop :=
  ((0 < s0 → (k102 I1 I3 I4 I5 I6 f8 f9 (x7 + s0))) ∧ (¬ 0 < s0 → (Z x7 (I0, I1, I3, I4, I5, I6, f8, f9, e0_3))))
def v_Reader_readSection_126 (I0 : Nat → Int32) (e0_3 : Nat) (I1 : Nat → Int32) (I3 : Nat → Int32) (I4 : Nat → Int32) (I5 : Nat → Int32) (I6 : Nat → Int32) (n7 : Nat) (f7 : Nat → Int32) (n8 : Nat) (f8 : Nat → Int32) (n9 : Nat) (f9 : Nat → Int32) (x3 : Int32) (x6 : Int32) (x7 : Int32) (k102 : (Nat → Int32) → (Nat → Int32) → (Nat → Int32) → (Nat → Int32) → (Nat → Int32) → (Nat → Int32) → (Nat → Int32) → Int32 → Prop) (Z : Int32 → (Nat → Int32) × (Nat → Int32) × (Nat → Int32) × (Nat → Int32) × (Nat → Int32) × (Nat → Int32) × (Nat → Int32) × (Nat → Int32) × Nat → Prop) : Prop :=
  (e0_3 < 4 ∧ (e0_3 = 0 → (v_Reader_readItem_0 I0 n7 f7 I3 I1 n8 f8 n9 f9 x7 (fun r u => (v_Reader_readSection_132 I0 0 u.2.1 u.1 I4 I5 I6 n7 f7 n8 u.2.2.1 n9 u.2.2.2 x3 x6 x7 r k102 Z)))) ∧ (e0_3 = 1 → (v_Reader_readItem_0 I0 n7 f7 I4 I1 n8 f8 n9 f9 x7 (fun r u => (v_Reader_readSection_132 I0 1 u.2.1 I3 u.1 I5 I6 n7 f7 n8 u.2.2.1 n9 u.2.2.2 x3 x6 x7 r k102 Z)))) ∧ (e0_3 = 2 → (v_Reader_readItem_0 I0 n7 f7 I5 I1 n8 f8 n9 f9 x7 (fun r u => (v_Reader_readSection_132 I0 2 u.2.1 I3 I4 u.1 I6 n7 f7 n8 u.2.2.1 n9 u.2.2.2 x3 x6 x7 r k102 Z)))) ∧ (e0_3 = 3 → (v_Reader_readItem_0 I0 n7 f7 I6 I1 n8 f8 n9 f9 x7 (fun r u => (v_Reader_readSection_132 I0 3 u.2.1 I3 I4 I5 u.1 n7 f7 n8 u.2.2.1 n9 u.2.2.2 x3 x6 x7 r k102 Z)))))
def v_Reader_readSection_181 (I0 : Nat → Int32) (e0_3 : Nat) (I1 : Nat → Int32) (I3 : Nat → Int32) (I4 : Nat → Int32) (I5 : Nat → Int32) (I6 : Nat → Int32) (n7 : Nat) (f7 : Nat → Int32) (n8 : Nat) (f8 : Nat → Int32) (n9 : Nat) (f9 : Nat → Int32)  (Z : Int32 → (Nat → Int32) × (Nat → Int32) × (Nat → Int32) × (Nat → Int32) × (Nat → Int32) × (Nat → Int32) × (Nat → Int32) × (Nat → Int32) × Nat → Prop) : Prop :=
  (Z (-1 : Int32) (I0, I1, I3, I4, I5, I6, f8, f9, e0_3))
def v_Reader_readSection_102 (I0 : Nat → Int32) (e0_3 : Nat) (n7 : Nat) (f7 : Nat → Int32) (n8 : Nat) (n9 : Nat) (x3 : Int32) (x6 : Int32)  (Z : Int32 → (Nat → Int32) × (Nat → Int32) × (Nat → Int32) × (Nat → Int32) × (Nat → Int32) × (Nat → Int32) × (Nat → Int32) × (Nat → Int32) × Nat → Prop) : Nat → (Nat → Int32) → (Nat → Int32) → (Nat → Int32) → (Nat → Int32) → (Nat → Int32) → (Nat → Int32) → (Nat → Int32) → Int32 → Prop
  | 0 => fun _ _ _ _ _ _ _ _ => False
  | N + 1 => fun I1 I3 I4 I5 I6 f8 f9 x7 => ((x3 ≤ x7 → (e0_3 < 4 ∧ (e0_3 = 0 → ((¬ (I3 0) = (5 : Int32) → (v_Reader_readSection_181 I0 0 I1 (zu I3 2 (I1 4)) I4 I5 I6 n7 f7 n8 f8 n9 f9  Z)) ∧ ((I3 0) = (5 : Int32) → (v_Reader_findMinutes_0 I0 (zu I3 2 (I1 4)) I1 n8 f8 n9 f9 (fun u => (v_Reader_readSection_181 I0 0 I1 (zu I3 2 (I1 4)) I4 I5 I6 n7 f7 n8 u n9 f9  Z)))))) ∧ (e0_3 = 1 → ((¬ (I4 0) = (5 : Int32) → (v_Reader_readSection_181 I0 1 I1 I3 (zu I4 2 (I1 4)) I5 I6 n7 f7 n8 f8 n9 f9  Z)) ∧ ((I4 0) = (5 : Int32) → (v_Reader_findMinutes_0 I0 (zu I4 2 (I1 4)) I1 n8 f8 n9 f9 (fun u => (v_Reader_readSection_181 I0 1 I1 I3 (zu I4 2 (I1 4)) I5 I6 n7 f7 n8 u n9 f9  Z)))))) ∧ (e0_3 = 2 → ((¬ (I5 0) = (5 : Int32) → (v_Reader_readSection_181 I0 2 I1 I3 I4 (zu I5 2 (I1 4)) I6 n7 f7 n8 f8 n9 f9  Z)) ∧ ((I5 0) = (5 : Int32) → (v_Reader_findMinutes_0 I0 (zu I5 2 (I1 4)) I1 n8 f8 n9 f9 (fun u => (v_Reader_readSection_181 I0 2 I1 I3 I4 (zu I5 2 (I1 4)) I6 n7 f7 n8 u n9 f9  Z)))))) ∧ (e0_3 = 3 → ((¬ (I6 0) = (5 : Int32) → (v_Reader_readSection_181 I0 3 I1 I3 I4 I5 (zu I6 2 (I1 4)) n7 f7 n8 f8 n9 f9  Z)) ∧ ((I6 0) = (5 : Int32) → (v_Reader_findMinutes_0 I0 (zu I6 2 (I1 4)) I1 n8 f8 n9 f9 (fun u => (v_Reader_readSection_181 I0 3 I1 I3 I4 I5 (zu I6 2 (I1 4)) n7 f7 n8 u n9 f9  Z)))))))) ∧ (¬ x3 ≤ x7 → ((x6 = 0 → (v_Reader_readSection_126 I0 e0_3 I1 I3 I4 I5 I6 n7 f7 n8 f8 n9 f9 x3 x6 x7 (v_Reader_readSection_102 I0 e0_3 n7 f7 n8 n9 x3 x6  Z N) Z)) ∧ (¬ x6 = 0 → ((x7 < (I0 4) → (v_Reader_readSection_126 I0 e0_3 I1 I3 I4 I5 I6 n7 f7 n8 f8 n9 f9 x3 x6 x7 (v_Reader_readSection_102 I0 e0_3 n7 f7 n8 n9 x3 x6  Z N) Z)) ∧ (¬ x7 < (I0 4) → (v_Reader_readSection_132 I0 e0_3 I1 I3 I4 I5 I6 n7 f7 n8 f8 n9 f9 x3 x6 x7 (0 : Int32) (v_Reader_readSection_102 I0 e0_3 n7 f7 n8 n9 x3 x6  Z N) Z)))))))
def v_Reader_readSection_97 (I0 : Nat → Int32) (e0_3 : Nat) (I1 : Nat → Int32) (I3 : Nat → Int32) (I4 : Nat → Int32) (I5 : Nat → Int32) (I6 : Nat → Int32) (n7 : Nat) (f7 : Nat → Int32) (n8 : Nat) (f8 : Nat → Int32) (n9 : Nat) (f9 : Nat → Int32) (x2 : Int32) (x3 : Int32) (s0 : Int32)  (Z : Int32 → (Nat → Int32) × (Nat → Int32) × (Nat → Int32) × (Nat → Int32) × (Nat → Int32) × (Nat → Int32) × (Nat → Int32) × (Nat → Int32) × Nat → Prop) : Prop :=
  (∃ Nx, v_Reader_readSection_102 I0 e0_3 n7 f7 n8 n9 x3 s0  Z Nx I1 I3 I4 I5 I6 f8 f9 x2)
def v_Reader_readSection_96 (I0 : Nat → Int32) (e0_3 : Nat) (I1 : Nat → Int32) (I3 : Nat → Int32) (I4 : Nat → Int32) (I5 : Nat → Int32) (I6 : Nat → Int32) (n7 : Nat) (f7 : Nat → Int32) (n8 : Nat) (f8 : Nat → Int32) (n9 : Nat) (f9 : Nat → Int32) (x2 : Int32) (x3 : Int32)  (Z : Int32 → (Nat → Int32) × (Nat → Int32) × (Nat → Int32) × (Nat → Int32) × (Nat → Int32) × (Nat → Int32) × (Nat → Int32) × (Nat → Int32) × Nat → Prop) : Prop :=
  (v_Reader_readSection_97 I0 e0_3 I1 I3 I4 I5 I6 n7 f7 n8 f8 n9 f9 x2 x3 (0 : Int32)  Z)
def v_Reader_readSection_89 (I0 : Nat → Int32) (e0_3 : Nat) (I1 : Nat → Int32) (I3 : Nat → Int32) (I4 : Nat → Int32) (I5 : Nat → Int32) (I6 : Nat → Int32) (n7 : Nat) (f7 : Nat → Int32) (n8 : Nat) (f8 : Nat → Int32) (n9 : Nat) (f9 : Nat → Int32) (x2 : Int32) (x3 : Int32) (s0 : Int32)  (Z : Int32 → (Nat → Int32) × (Nat → Int32) × (Nat → Int32) × (Nat → Int32) × (Nat → Int32) × (Nat → Int32) × (Nat → Int32) × (Nat → Int32) × Nat → Prop) : Prop :=
  ((s0 = 0 → (v_Reader_readSection_96 I0 e0_3 I1 I3 I4 I5 I6 n7 f7 n8 f8 n9 f9 x2 x3  Z)) ∧ (¬ s0 = 0 → (v_Reader_readSection_97 I0 e0_3 I1 I3 I4 I5 I6 n7 f7 n8 f8 n9 f9 x2 x3 (1 : Int32)  Z)))
def v_Reader_readSection_77 (I0 : Nat → Int32) (e0_3 : Nat) (I1 : Nat → Int32) (I3 : Nat → Int32) (I4 : Nat → Int32) (I5 : Nat → Int32) (I6 : Nat → Int32) (n7 : Nat) (f7 : Nat → Int32) (n8 : Nat) (f8 : Nat → Int32) (n9 : Nat) (f9 : Nat → Int32) (x2 : Int32) (x3 : Int32) (x5 : Int32)  (Z : Int32 → (Nat → Int32) × (Nat → Int32) × (Nat → Int32) × (Nat → Int32) × (Nat → Int32) × (Nat → Int32) × (Nat → Int32) × (Nat → Int32) × Nat → Prop) : Prop :=
  ((x5 = 0 → (v_Reader_readSection_96 I0 e0_3 I1 I3 I4 I5 I6 n7 f7 n8 f8 n9 f9 x2 x3  Z)) ∧ (¬ x5 = 0 → (e0_3 < 4 ∧ (e0_3 = 0 → (v_Section_isBarredFromFourth_0 I3 (fun r u => (v_Reader_readSection_89 I0 0 I1 I3 I4 I5 I6 n7 f7 n8 f8 n9 f9 x2 x3 r  Z)))) ∧ (e0_3 = 1 → (v_Section_isBarredFromFourth_0 I4 (fun r u => (v_Reader_readSection_89 I0 1 I1 I3 I4 I5 I6 n7 f7 n8 f8 n9 f9 x2 x3 r  Z)))) ∧ (e0_3 = 2 → (v_Section_isBarredFromFourth_0 I5 (fun r u => (v_Reader_readSection_89 I0 2 I1 I3 I4 I5 I6 n7 f7 n8 f8 n9 f9 x2 x3 r  Z)))) ∧ (e0_3 = 3 → (v_Section_isBarredFromFourth_0 I6 (fun r u => (v_Reader_readSection_89 I0 3 I1 I3 I4 I5 I6 n7 f7 n8 f8 n9 f9 x2 x3 r  Z)))))))
def v_Reader_readSection_71 (I0 : Nat → Int32) (e0_3 : Nat) (I1 : Nat → Int32) (I3 : Nat → Int32) (I4 : Nat → Int32) (I5 : Nat → Int32) (I6 : Nat → Int32) (n7 : Nat) (f7 : Nat → Int32) (n8 : Nat) (f8 : Nat → Int32) (n9 : Nat) (f9 : Nat → Int32) (x2 : Int32) (x3 : Int32) (x5 : Int32)  (Z : Int32 → (Nat → Int32) × (Nat → Int32) × (Nat → Int32) × (Nat → Int32) × (Nat → Int32) × (Nat → Int32) × (Nat → Int32) × (Nat → Int32) × Nat → Prop) : Prop :=
  (e0_3 < 4 ∧ (e0_3 = 0 → (v_Reader_findKind_0 I0 I3 n7 f7 x2 x3 (fun u => (v_Reader_readSection_77 u.1 0 I1 u.2 I4 I5 I6 n7 f7 n8 f8 n9 f9 x2 x3 x5  Z)))) ∧ (e0_3 = 1 → (v_Reader_findKind_0 I0 I4 n7 f7 x2 x3 (fun u => (v_Reader_readSection_77 u.1 1 I1 I3 u.2 I5 I6 n7 f7 n8 f8 n9 f9 x2 x3 x5  Z)))) ∧ (e0_3 = 2 → (v_Reader_findKind_0 I0 I5 n7 f7 x2 x3 (fun u => (v_Reader_readSection_77 u.1 2 I1 I3 I4 u.2 I6 n7 f7 n8 f8 n9 f9 x2 x3 x5  Z)))) ∧ (e0_3 = 3 → (v_Reader_findKind_0 I0 I6 n7 f7 x2 x3 (fun u => (v_Reader_readSection_77 u.1 3 I1 I3 I4 I5 u.2 n7 f7 n8 f8 n9 f9 x2 x3 x5  Z)))))
def v_Reader_readSection_49 (I0 : Nat → Int32) (e0_3 : Nat) (I1 : Nat → Int32) (I3 : Nat → Int32) (I4 : Nat → Int32) (I5 : Nat → Int32) (I6 : Nat → Int32) (n7 : Nat) (f7 : Nat → Int32) (n8 : Nat) (f8 : Nat → Int32) (n9 : Nat) (f9 : Nat → Int32) (x2 : Int32) (x3 : Int32) (x5 : Int32) (s0 : Int32)  (Z : Int32 → (Nat → Int32) × (Nat → Int32) × (Nat → Int32) × (Nat → Int32) × (Nat → Int32) × (Nat → Int32) × (Nat → Int32) × (Nat → Int32) × Nat → Prop) : Prop :=
  ((s0 = 0 → (v_Reader_readSection_71 I0 e0_3 I1 I3 I4 I5 I6 n7 f7 n8 f8 n9 f9 x2 x3 x5  Z)) ∧ (¬ s0 = 0 → (e0_3 < 4 ∧ (e0_3 = 0 → ((x5 = 0 → (Z (-1 : Int32) (I0, I1, (zu I3 0 (0 : Int32)), I4, I5, I6, f8, f9, 0))) ∧ (¬ x5 = 0 → (Z x2 (I0, I1, (zu I3 0 (0 : Int32)), I4, I5, I6, f8, f9, 0))))) ∧ (e0_3 = 1 → ((x5 = 0 → (Z (-1 : Int32) (I0, I1, I3, (zu I4 0 (0 : Int32)), I5, I6, f8, f9, 1))) ∧ (¬ x5 = 0 → (Z x2 (I0, I1, I3, (zu I4 0 (0 : Int32)), I5, I6, f8, f9, 1))))) ∧ (e0_3 = 2 → ((x5 = 0 → (Z (-1 : Int32) (I0, I1, I3, I4, (zu I5 0 (0 : Int32)), I6, f8, f9, 2))) ∧ (¬ x5 = 0 → (Z x2 (I0, I1, I3, I4, (zu I5 0 (0 : Int32)), I6, f8, f9, 2))))) ∧ (e0_3 = 3 → ((x5 = 0 → (Z (-1 : Int32) (I0, I1, I3, I4, I5, (zu I6 0 (0 : Int32)), f8, f9, 3))) ∧ (¬ x5 = 0 → (Z x2 (I0, I1, I3, I4, I5, (zu I6 0 (0 : Int32)), f8, f9, 3))))))))
def v_Reader_readSection_32 (I0 : Nat → Int32) (e0_3 : Nat) (I1 : Nat → Int32) (I3 : Nat → Int32) (I4 : Nat → Int32) (I5 : Nat → Int32) (I6 : Nat → Int32) (n7 : Nat) (f7 : Nat → Int32) (n8 : Nat) (f8 : Nat → Int32) (n9 : Nat) (f9 : Nat → Int32) (x2 : Int32) (x3 : Int32) (s0 : Int32)  (Z : Int32 → (Nat → Int32) × (Nat → Int32) × (Nat → Int32) × (Nat → Int32) × (Nat → Int32) × (Nat → Int32) × (Nat → Int32) × (Nat → Int32) × Nat → Prop) : Prop :=
  ((¬ (x3 - x2) = (7 : Int32) → (v_Reader_readSection_71 I0 e0_3 I1 I3 I4 I5 I6 n7 f7 n8 f8 n9 f9 x2 x3 s0  Z)) ∧ ((x3 - x2) = (7 : Int32) → (v_Reader_goesOn_0 I0 n7 f7 x2 9 (fun r u => (v_Reader_readSection_49 I0 e0_3 I1 I3 I4 I5 I6 n7 f7 n8 f8 n9 f9 x2 x3 s0 r  Z)))))
def v_Reader_readSection_7v1 (I0 : Nat → Int32) (I1 : Nat → Int32) (I3 : Nat → Int32) (I4 : Nat → Int32) (I5 : Nat → Int32) (I6 : Nat → Int32) (n7 : Nat) (f7 : Nat → Int32) (n8 : Nat) (f8 : Nat → Int32) (n9 : Nat) (f9 : Nat → Int32) (x1 : Int32) (x2 : Int32) (x3 : Int32) (s0 : Nat)  (Z : Int32 → (Nat → Int32) × (Nat → Int32) × (Nat → Int32) × (Nat → Int32) × (Nat → Int32) × (Nat → Int32) × (Nat → Int32) × (Nat → Int32) × Nat → Prop) : Prop :=
  ((¬ x1 = (3 : Int32) → (v_Reader_readSection_32 I0 s0 I1 I3 I4 I5 I6 n7 f7 n8 f8 n9 f9 x2 x3 (0 : Int32)  Z)) ∧ (x1 = (3 : Int32) → (v_Reader_readSection_32 I0 s0 I1 I3 I4 I5 I6 n7 f7 n8 f8 n9 f9 x2 x3 (1 : Int32)  Z)))
def v_Reader_readSection_0 (I0 : Nat → Int32) (I1 : Nat → Int32) (I3 : Nat → Int32) (I4 : Nat → Int32) (I5 : Nat → Int32) (I6 : Nat → Int32) (n7 : Nat) (f7 : Nat → Int32) (n8 : Nat) (f8 : Nat → Int32) (n9 : Nat) (f9 : Nat → Int32) (x1 : Int32) (x2 : Int32) (x3 : Int32)  (Z : Int32 → (Nat → Int32) × (Nat → Int32) × (Nat → Int32) × (Nat → Int32) × (Nat → Int32) × (Nat → Int32) × (Nat → Int32) × (Nat → Int32) × Nat → Prop) : Prop :=
  (v_Code_open_0 I1 I3 I4 I5 I6 (fun r u => ((r = none → (v_Reader_readSection_7 I0 u.1 u.2.1 u.2.2.1 u.2.2.2.1 u.2.2.2.2 n7 f7 n8 f8 n9 f9 x1 x2 x3  Z)) ∧ (∀ j : Nat, r = some j → (v_Reader_readSection_7v1 I0 u.1 u.2.1 u.2.2.1 u.2.2.2.1 u.2.2.2.2 n7 f7 n8 f8 n9 f9 x1 x2 x3 j  Z)))))
def v_Reader_sectionEnd_29 (I0 : Nat → Int32) (n1 : Nat) (f1 : Nat → Int32) (s0 : Int32) (s1 : Int32) (s2 : Int32) (k2 : Int32 → Prop) (Z : Int32 → Unit → Prop) : Prop :=
  (k2 (s0 + (zmax s1 s2)))
def v_Reader_sectionEnd_15 (I0 : Nat → Int32) (n1 : Nat) (f1 : Nat → Int32) (x2 : Int32) (s0 : Int32) (k2 : Int32 → Prop) (Z : Int32 → Unit → Prop) : Prop :=
  ((¬ s0 = (59 : Int32) → (v_Reader_commonLength_0 I0 n1 f1 x2 (fun r u => (v_Reader_sectionEnd_29 I0 n1 f1 x2 (1 : Int32) r k2 Z)))) ∧ (s0 = (59 : Int32) → (Z x2 ())))
def v_Reader_sectionEnd_2 (I0 : Nat → Int32) (n1 : Nat) (f1 : Nat → Int32)  (Z : Int32 → Unit → Prop) : Nat → Int32 → Prop
  | 0 => fun _ => False
  | N + 1 => fun x2 => (((I0 1) ≤ x2 → (Z (I0 1) ())) ∧ (¬ (I0 1) ≤ x2 → (v_Reader_sign_0 I0 n1 f1 x2 (fun r u => (v_Reader_sectionEnd_15 I0 n1 f1 x2 r (v_Reader_sectionEnd_2 I0 n1 f1  Z N) Z)))))
def v_Reader_sectionEnd_0 (I0 : Nat → Int32) (n1 : Nat) (f1 : Nat → Int32) (x1 : Int32)  (Z : Int32 → Unit → Prop) : Prop :=
  (∃ Nx, v_Reader_sectionEnd_2 I0 n1 f1  Z Nx x1)
def v_Reader_read_49v1 (I0 : Nat → Int32) (e0_3 : Nat) (n1 : Nat) (f1 : Nat → Int32) (I2 : Nat → Int32) (I4 : Nat → Int32) (I5 : Nat → Int32) (I6 : Nat → Int32) (I7 : Nat → Int32) (n8 : Nat) (f8 : Nat → Int32) (n9 : Nat) (f9 : Nat → Int32) (x4 : Int32) (x5 : Int32) (s0 : Int32) (k27v1 : (Nat → Int32) → Nat → (Nat → Int32) → (Nat → Int32) → (Nat → Int32) → (Nat → Int32) → (Nat → Int32) → (Nat → Int32) → (Nat → Int32) → Int32 → Int32 → Prop) (Z : Int32 → (Nat → Int32) × (Nat → Int32) × (Nat → Int32) × (Nat → Int32) × (Nat → Int32) × (Nat → Int32) × (Nat → Int32) × (Nat → Int32) × Nat → Prop) : Prop :=
  ((s0 = (-1 : Int32) → ((x5 < (I0 1) → (e0_3 < 4 ∧ (e0_3 = 0 → (((I4 0) = (6 : Int32) → (Z x5 (I0, I2, I4, I5, I6, I7, f8, f9, 0))) ∧ (¬ (I4 0) = (6 : Int32) → ((¬ x4 = (3 : Int32) → (k27v1 I0 0 I2 I4 I5 I6 I7 f8 f9 (x5 + (1 : Int32)) (x4 + (1 : Int32)))) ∧ (x4 = (3 : Int32) → (Z x5 (I0, I2, I4, I5, I6, I7, f8, f9, 0))))))) ∧ (e0_3 = 1 → (((I5 0) = (6 : Int32) → (Z x5 (I0, I2, I4, I5, I6, I7, f8, f9, 1))) ∧ (¬ (I5 0) = (6 : Int32) → ((¬ x4 = (3 : Int32) → (k27v1 I0 1 I2 I4 I5 I6 I7 f8 f9 (x5 + (1 : Int32)) (x4 + (1 : Int32)))) ∧ (x4 = (3 : Int32) → (Z x5 (I0, I2, I4, I5, I6, I7, f8, f9, 1))))))) ∧ (e0_3 = 2 → (((I6 0) = (6 : Int32) → (Z x5 (I0, I2, I4, I5, I6, I7, f8, f9, 2))) ∧ (¬ (I6 0) = (6 : Int32) → ((¬ x4 = (3 : Int32) → (k27v1 I0 2 I2 I4 I5 I6 I7 f8 f9 (x5 + (1 : Int32)) (x4 + (1 : Int32)))) ∧ (x4 = (3 : Int32) → (Z x5 (I0, I2, I4, I5, I6, I7, f8, f9, 2))))))) ∧ (e0_3 = 3 → (((I7 0) = (6 : Int32) → (Z x5 (I0, I2, I4, I5, I6, I7, f8, f9, 3))) ∧ (¬ (I7 0) = (6 : Int32) → ((¬ x4 = (3 : Int32) → (k27v1 I0 3 I2 I4 I5 I6 I7 f8 f9 (x5 + (1 : Int32)) (x4 + (1 : Int32)))) ∧ (x4 = (3 : Int32) → (Z x5 (I0, I2, I4, I5, I6, I7, f8, f9, 3))))))))) ∧ (¬ x5 < (I0 1) → (Z (-1 : Int32) (I0, I2, I4, I5, I6, I7, f8, f9, e0_3))))) ∧ (¬ s0 = (-1 : Int32) → (Z s0 (I0, I2, I4, I5, I6, I7, f8, f9, e0_3))))
def v_Reader_read_38v1 (I0 : Nat → Int32) (e0_3 : Nat) (n1 : Nat) (f1 : Nat → Int32) (I2 : Nat → Int32) (I4 : Nat → Int32) (I5 : Nat → Int32) (I6 : Nat → Int32) (I7 : Nat → Int32) (n8 : Nat) (f8 : Nat → Int32) (n9 : Nat) (f9 : Nat → Int32) (x3 : Int32) (x4 : Int32) (s0 : Int32) (k27v1 : (Nat → Int32) → Nat → (Nat → Int32) → (Nat → Int32) → (Nat → Int32) → (Nat → Int32) → (Nat → Int32) → (Nat → Int32) → (Nat → Int32) → Int32 → Int32 → Prop) (Z : Int32 → (Nat → Int32) × (Nat → Int32) × (Nat → Int32) × (Nat → Int32) × (Nat → Int32) × (Nat → Int32) × (Nat → Int32) × (Nat → Int32) × Nat → Prop) : Prop :=
  (v_Reader_readSection_0 I0 I2 I4 I5 I6 I7 n1 f1 n8 f8 n9 f9 x4 x3 s0 (fun r u => (v_Reader_read_49v1 u.1 u.2.2.2.2.2.2.2.2 n1 f1 u.2.1 u.2.2.1 u.2.2.2.1 u.2.2.2.2.1 u.2.2.2.2.2.1 n8 u.2.2.2.2.2.2.1 n9 u.2.2.2.2.2.2.2.1 x4 s0 r k27v1 Z)))
def v_Reader_read_27v1 (n1 : Nat) (f1 : Nat → Int32) (n8 : Nat) (n9 : Nat)  (Z : Int32 → (Nat → Int32) × (Nat → Int32) × (Nat → Int32) × (Nat → Int32) × (Nat → Int32) × (Nat → Int32) × (Nat → Int32) × (Nat → Int32) × Nat → Prop) : Nat → (Nat → Int32) → Nat → (Nat → Int32) → (Nat → Int32) → (Nat → Int32) → (Nat → Int32) → (Nat → Int32) → (Nat → Int32) → (Nat → Int32) → Int32 → Int32 → Prop
  | 0 => fun _ _ _ _ _ _ _ _ _ _ _ => False
  | N + 1 => fun I0 e0_3 I2 I4 I5 I6 I7 f8 f9 x3 x4 => (((4 : Int32) ≤ x4 → (Z (-1 : Int32) (I0, I2, I4, I5, I6, I7, f8, f9, e0_3))) ∧ (¬ (4 : Int32) ≤ x4 → (v_Reader_sectionEnd_0 I0 n1 f1 x3 (fun r u => (v_Reader_read_38v1 I0 e0_3 n1 f1 I2 I4 I5 I6 I7 n8 f8 n9 f9 x3 x4 r (v_Reader_read_27v1 n1 f1 n8 n9  Z N) Z)))))
def v_Reader_read_49 (I0 : Nat → Int32) (e0_3 : Nat) (n1 : Nat) (f1 : Nat → Int32) (I2 : Nat → Int32) (I4 : Nat → Int32) (I5 : Nat → Int32) (I6 : Nat → Int32) (I7 : Nat → Int32) (n8 : Nat) (f8 : Nat → Int32) (n9 : Nat) (f9 : Nat → Int32) (x4 : Int32) (x5 : Int32) (s0 : Int32) (k27 : (Nat → Int32) → (Nat → Int32) → (Nat → Int32) → (Nat → Int32) → (Nat → Int32) → (Nat → Int32) → (Nat → Int32) → (Nat → Int32) → Int32 → Int32 → Prop) (Z : Int32 → (Nat → Int32) × (Nat → Int32) × (Nat → Int32) × (Nat → Int32) × (Nat → Int32) × (Nat → Int32) × (Nat → Int32) × (Nat → Int32) × Nat → Prop) : Prop :=
  ((s0 = (-1 : Int32) → ((x5 < (I0 1) → (e0_3 < 4 ∧ (e0_3 = 0 → (((I4 0) = (6 : Int32) → (Z x5 (I0, I2, I4, I5, I6, I7, f8, f9, 0))) ∧ (¬ (I4 0) = (6 : Int32) → ((¬ x4 = (3 : Int32) → (∃ Nx, v_Reader_read_27v1 n1 f1 n8 n9  Z Nx I0 0 I2 I4 I5 I6 I7 f8 f9 (x5 + (1 : Int32)) (x4 + (1 : Int32)))) ∧ (x4 = (3 : Int32) → (Z x5 (I0, I2, I4, I5, I6, I7, f8, f9, 0))))))) ∧ (e0_3 = 1 → (((I5 0) = (6 : Int32) → (Z x5 (I0, I2, I4, I5, I6, I7, f8, f9, 1))) ∧ (¬ (I5 0) = (6 : Int32) → ((¬ x4 = (3 : Int32) → (∃ Nx, v_Reader_read_27v1 n1 f1 n8 n9  Z Nx I0 1 I2 I4 I5 I6 I7 f8 f9 (x5 + (1 : Int32)) (x4 + (1 : Int32)))) ∧ (x4 = (3 : Int32) → (Z x5 (I0, I2, I4, I5, I6, I7, f8, f9, 1))))))) ∧ (e0_3 = 2 → (((I6 0) = (6 : Int32) → (Z x5 (I0, I2, I4, I5, I6, I7, f8, f9, 2))) ∧ (¬ (I6 0) = (6 : Int32) → ((¬ x4 = (3 : Int32) → (∃ Nx, v_Reader_read_27v1 n1 f1 n8 n9  Z Nx I0 2 I2 I4 I5 I6 I7 f8 f9 (x5 + (1 : Int32)) (x4 + (1 : Int32)))) ∧ (x4 = (3 : Int32) → (Z x5 (I0, I2, I4, I5, I6, I7, f8, f9, 2))))))) ∧ (e0_3 = 3 → (((I7 0) = (6 : Int32) → (Z x5 (I0, I2, I4, I5, I6, I7, f8, f9, 3))) ∧ (¬ (I7 0) = (6 : Int32) → ((¬ x4 = (3 : Int32) → (∃ Nx, v_Reader_read_27v1 n1 f1 n8 n9  Z Nx I0 3 I2 I4 I5 I6 I7 f8 f9 (x5 + (1 : Int32)) (x4 + (1 : Int32)))) ∧ (x4 = (3 : Int32) → (Z x5 (I0, I2, I4, I5, I6, I7, f8, f9, 3))))))))) ∧ (¬ x5 < (I0 1) → (Z (-1 : Int32) (I0, I2, I4, I5, I6, I7, f8, f9, e0_3))))) ∧ (¬ s0 = (-1 : Int32) → (Z s0 (I0, I2, I4, I5, I6, I7, f8, f9, e0_3))))
def v_Reader_read_38 (I0 : Nat → Int32) (n1 : Nat) (f1 : Nat → Int32) (I2 : Nat → Int32) (I4 : Nat → Int32) (I5 : Nat → Int32) (I6 : Nat → Int32) (I7 : Nat → Int32) (n8 : Nat) (f8 : Nat → Int32) (n9 : Nat) (f9 : Nat → Int32) (x3 : Int32) (x4 : Int32) (s0 : Int32) (k27 : (Nat → Int32) → (Nat → Int32) → (Nat → Int32) → (Nat → Int32) → (Nat → Int32) → (Nat → Int32) → (Nat → Int32) → (Nat → Int32) → Int32 → Int32 → Prop) (Z : Int32 → (Nat → Int32) × (Nat → Int32) × (Nat → Int32) × (Nat → Int32) × (Nat → Int32) × (Nat → Int32) × (Nat → Int32) × (Nat → Int32) × Nat → Prop) : Prop :=
  (v_Reader_readSection_0 I0 I2 I4 I5 I6 I7 n1 f1 n8 f8 n9 f9 x4 x3 s0 (fun r u => (v_Reader_read_49 u.1 u.2.2.2.2.2.2.2.2 n1 f1 u.2.1 u.2.2.1 u.2.2.2.1 u.2.2.2.2.1 u.2.2.2.2.2.1 n8 u.2.2.2.2.2.2.1 n9 u.2.2.2.2.2.2.2.1 x4 s0 r k27 Z)))
def v_Reader_read_27 (n1 : Nat) (f1 : Nat → Int32) (n8 : Nat) (n9 : Nat)  (Z : Int32 → (Nat → Int32) × (Nat → Int32) × (Nat → Int32) × (Nat → Int32) × (Nat → Int32) × (Nat → Int32) × (Nat → Int32) × (Nat → Int32) × Nat → Prop) : Nat → (Nat → Int32) → (Nat → Int32) → (Nat → Int32) → (Nat → Int32) → (Nat → Int32) → (Nat → Int32) → (Nat → Int32) → (Nat → Int32) → Int32 → Int32 → Prop
  | 0 => fun _ _ _ _ _ _ _ _ _ _ => False
  | N + 1 => fun I0 I2 I4 I5 I6 I7 f8 f9 x3 x4 => (((4 : Int32) ≤ x4 → False) ∧ (¬ (4 : Int32) ≤ x4 → (v_Reader_sectionEnd_0 I0 n1 f1 x3 (fun r u => (v_Reader_read_38 I0 n1 f1 I2 I4 I5 I6 I7 n8 f8 n9 f9 x3 x4 r (v_Reader_read_27 n1 f1 n8 n9  Z N) Z)))))
def v_Reader_read_22 (I0 : Nat → Int32) (n1 : Nat) (f1 : Nat → Int32) (I2 : Nat → Int32) (I4 : Nat → Int32) (I5 : Nat → Int32) (I6 : Nat → Int32) (I7 : Nat → Int32) (n8 : Nat) (f8 : Nat → Int32) (n9 : Nat) (f9 : Nat → Int32)  (Z : Int32 → (Nat → Int32) × (Nat → Int32) × (Nat → Int32) × (Nat → Int32) × (Nat → Int32) × (Nat → Int32) × (Nat → Int32) × (Nat → Int32) × Nat → Prop) : Prop :=
  (∃ Nx, v_Reader_read_27 n1 f1 n8 n9  Z Nx I0 I2 I4 I5 I6 I7 f8 f9 (0 : Int32) (0 : Int32))
def v_Reader_read_0 (I0 : Nat → Int32) (n1 : Nat) (f1 : Nat → Int32) (I2 : Nat → Int32) (I4 : Nat → Int32) (I5 : Nat → Int32) (I6 : Nat → Int32) (I7 : Nat → Int32) (n8 : Nat) (f8 : Nat → Int32) (n9 : Nat) (f9 : Nat → Int32) (x2 : Int32)  (Z : Int32 → (Nat → Int32) × (Nat → Int32) × (Nat → Int32) × (Nat → Int32) × (Nat → Int32) × (Nat → Int32) × (Nat → Int32) × (Nat → Int32) × Nat → Prop) : Prop :=
  (v_Code_clear_0 I2 (fun u => (v_Reader_read_22 (zu I0 1 (zmin x2 (nI n1))) n1 f1 u I4 I5 I6 I7 n8 f8 n9 f9  Z)))
def v_ND_code_33 (I0 : Nat → Int32) (I1 : Nat → Int32) (e1_3 : Nat) (n2 : Nat) (f2 : Nat → Int32) (I3 : Nat → Int32) (I5 : Nat → Int32) (I6 : Nat → Int32) (I7 : Nat → Int32) (I8 : Nat → Int32) (n9 : Nat) (f9 : Nat → Int32) (n10 : Nat) (f10 : Nat → Int32) (I11 : Nat → Int32) (I12 : Nat → Int32) (x1 : Int32)  (Z : Int32 → Nat → ((Nat → Int32) × (Nat → Int32) × (Nat → Int32) × (Nat → Int32) × (Nat → Int32) × (Nat → Int32) × (Nat → Int32) × (Nat → Int32) × (Nat → Int32)) → Prop) : Prop :=
  (Z x1 1 (I1, I3, I5, I6, I7, I8, f9, f10, (zu I12 2 (0 : Int32))))
def v_ND_code_15 (I0 : Nat → Int32) (I1 : Nat → Int32) (e1_3 : Nat) (n2 : Nat) (f2 : Nat → Int32) (I3 : Nat → Int32) (I5 : Nat → Int32) (I6 : Nat → Int32) (I7 : Nat → Int32) (I8 : Nat → Int32) (n9 : Nat) (f9 : Nat → Int32) (n10 : Nat) (f10 : Nat → Int32) (I11 : Nat → Int32) (I12 : Nat → Int32) (s0 : Int32)  (Z : Int32 → Nat → ((Nat → Int32) × (Nat → Int32) × (Nat → Int32) × (Nat → Int32) × (Nat → Int32) × (Nat → Int32) × (Nat → Int32) × (Nat → Int32) × (Nat → Int32)) → Prop) : Prop :=
  ((¬ s0 = (-1 : Int32) → (Z s0 0 (I1, I3, I5, I6, I7, I8, f9, f10, I12))) ∧ (s0 = (-1 : Int32) → (v_Reader_give_0 I1 I3 I11 (fun u => (v_ND_code_33 I0 I1 e1_3 n2 f2 I3 I5 I6 I7 I8 n9 f9 n10 f10 I11 I12 s0  Z)))))
def v_ND_code_0 (I0 : Nat → Int32) (I1 : Nat → Int32) (n2 : Nat) (f2 : Nat → Int32) (I3 : Nat → Int32) (I5 : Nat → Int32) (I6 : Nat → Int32) (I7 : Nat → Int32) (I8 : Nat → Int32) (n9 : Nat) (f9 : Nat → Int32) (n10 : Nat) (f10 : Nat → Int32) (I11 : Nat → Int32) (I12 : Nat → Int32)  (Z : Int32 → Nat → ((Nat → Int32) × (Nat → Int32) × (Nat → Int32) × (Nat → Int32) × (Nat → Int32) × (Nat → Int32) × (Nat → Int32) × (Nat → Int32) × (Nat → Int32)) → Prop) : Prop :=
  (v_Reader_read_0 I1 n2 f2 I3 I5 I6 I7 I8 n9 f9 n10 f10 (I0 1) (fun r u => (v_ND_code_15 I0 u.1 u.2.2.2.2.2.2.2.2 n2 f2 u.2.1 u.2.2.1 u.2.2.2.1 u.2.2.2.2.1 u.2.2.2.2.2.1 n9 u.2.2.2.2.2.2.1 n10 u.2.2.2.2.2.2.2.1 I11 I12 r  Z)))
def v_Value_takeNumber_21 (I0 : Nat → Int32) (J0 : Nat → Int64) (x2 : Int64) (x4 : Int32) (s1 : Int32)  (Z : (Nat → Int32) × (Nat → Int64) → Prop) : Prop :=
  (zb s1 ∧ (Z ((zu (zu I0 1 s1) 3 x4), (zul J0 2 x2))))
def v_Value_takeNumber_20 (I0 : Nat → Int32) (J0 : Nat → Int64) (x2 : Int64) (x4 : Int32)  (Z : (Nat → Int32) × (Nat → Int64) → Prop) : Prop :=
  (v_Value_takeNumber_21 I0 J0 x2 x4 (0 : Int32)  Z)
def v_Value_takeNumber_0 (I0 : Nat → Int32) (J0 : Nat → Int64) (x1 : Int32) (x2 : Int64) (x4 : Int32)  (Z : (Nat → Int32) × (Nat → Int64) → Prop) : Prop :=
  ((x1 = 0 → (v_Value_takeNumber_20 (zu I0 0 (0 : Int32)) J0 x2 x4  Z)) ∧ (¬ x1 = 0 → ((x2 = (0 : Int64) → (v_Value_takeNumber_20 (zu I0 0 (0 : Int32)) J0 x2 x4  Z)) ∧ (¬ x2 = (0 : Int64) → (v_Value_takeNumber_21 (zu I0 0 (0 : Int32)) J0 x2 x4 (1 : Int32)  Z)))))
def v_ND_number_36 (I0 : Nat → Int32) (I1 : Nat → Int32) (J1 : Nat → Int64) (I2 : Nat → Int32)  (Z : (Nat → Int32) × (Nat → Int64) × (Nat → Int32) → Prop) : Prop :=
  False
def v_ND_number_65 (I0 : Nat → Int32) (I1 : Nat → Int32) (J1 : Nat → Int64) (I2 : Nat → Int32)  (Z : (Nat → Int32) × (Nat → Int64) × (Nat → Int32) → Prop) : Prop :=
  (Z (I1, J1, (zu I2 2 (0 : Int32))))
def v_ND_number_0 (I0 : Nat → Int32) (I1 : Nat → Int32) (J1 : Nat → Int64) (I2 : Nat → Int32) (x1 : Int32) (x2 : Int32) (x3 : Int32) (x4 : Int32)  (Z : (Nat → Int32) × (Nat → Int64) × (Nat → Int32) → Prop) : Prop :=
  ((x2 < 0 → (v_ND_number_36 I0 I1 J1 I2  Z)) ∧ (¬ x2 < 0 → (((99999999 : Int32) < x2 → (v_ND_number_36 I0 I1 J1 I2  Z)) ∧ (¬ (99999999 : Int32) < x2 → ((x3 < 0 → (v_ND_number_36 I0 I1 J1 I2  Z)) ∧ (¬ x3 < 0 → (((999999999 : Int32) < x3 → (v_ND_number_36 I0 I1 J1 I2  Z)) ∧ (¬ (999999999 : Int32) < x3 → ((x4 < (-350 : Int32) → (v_ND_number_36 I0 I1 J1 I2  Z)) ∧ (¬ x4 < (-350 : Int32) → ((x4 ≤ (300 : Int32) → (v_Value_takeNumber_0 I1 J1 x1 ((x2.toInt64 * (1000000000 : Int64)) + x3.toInt64) x4 (fun u => (v_ND_number_65 I0 u.1 u.2 I2  Z)))) ∧ (¬ x4 ≤ (300 : Int32) → (v_ND_number_36 I0 I1 J1 I2  Z)))))))))))))
def v_Value_takeText_12 (J0 : Nat → Int64) (n1 : Nat) (f1 : Nat → Int32) (n2 : Nat) (x2 : Int32)  (Z : (Nat → Int32) × (Nat → Int32) → Prop) : Nat → (Nat → Int32) → (Nat → Int32) → Int32 → Prop
  | 0 => fun _ _ _ => False
  | N + 1 => fun I0 f2 x3 => ((x2 ≤ x3 → (Z (I0, f2))) ∧ (¬ x2 ≤ x3 → (((nI n1) ≤ x3 → (Z (I0, f2))) ∧ (¬ (nI n1) ≤ x3 → (((nI n2) ≤ x3 → (Z (I0, f2))) ∧ (¬ (nI n2) ≤ x3 → (vp_in x3 n1 ∧ (vp_in x3 n2 ∧ ((v_Value_takeText_12 J0 n1 f1 n2 x2  Z N) (zu I0 5 ((I0 5) + (1 : Int32))) (upd f2 x3.toNatClampNeg (vp_nar .char (f1 x3.toNatClampNeg))) (x3 + (1 : Int32)))))))))))
def v_Value_takeText_0 (I0 : Nat → Int32) (J0 : Nat → Int64) (n1 : Nat) (f1 : Nat → Int32) (n2 : Nat) (f2 : Nat → Int32) (x2 : Int32)  (Z : (Nat → Int32) × (Nat → Int32) → Prop) : Prop :=
  (∃ Nx, v_Value_takeText_12 J0 n1 f1 n2 x2  Z Nx (zu (zu I0 0 (1 : Int32)) 5 (0 : Int32)) f2 (0 : Int32))
def v_ND_text_15 (I0 : Nat → Int32) (I1 : Nat → Int32) (J1 : Nat → Int64) (n2 : Nat) (f2 : Nat → Int32) (n3 : Nat) (f3 : Nat → Int32) (I4 : Nat → Int32)  (Z : (Nat → Int32) × (Nat → Int32) × (Nat → Int32) → Prop) : Prop :=
  (Z (I1, f3, (zu I4 2 (0 : Int32))))
def v_ND_text_0 (I0 : Nat → Int32) (I1 : Nat → Int32) (J1 : Nat → Int64) (n2 : Nat) (f2 : Nat → Int32) (n3 : Nat) (f3 : Nat → Int32) (I4 : Nat → Int32)  (Z : (Nat → Int32) × (Nat → Int32) × (Nat → Int32) → Prop) : Prop :=
  (v_Value_takeText_0 I1 J1 n2 f2 n3 f3 (I0 1) (fun u => (v_ND_text_15 I0 u.1 J1 n2 f2 n3 u.2 I4  Z)))
def v_Code_section_0 (I0 : Nat → Int32) (x1 : Int32)  (Z : Option Nat → Unit → Prop) : Prop :=
  ((x1 < 0 → (Z none ())) ∧ (¬ x1 < 0 → (((I0 1) ≤ x1 → (Z none ())) ∧ (¬ (I0 1) ≤ x1 → (((nI 4) ≤ x1 → (Z none ())) ∧ (¬ (nI 4) ≤ x1 → (vp_in x1 4 ∧ (∀ j_5 : Nat, j_5 = x1.toNatClampNeg → (Z (some j_5) ())))))))))
def v_Code_numberSections_31 (I0 : Nat → Int32) (I2 : Nat → Int32) (I3 : Nat → Int32) (I4 : Nat → Int32) (I5 : Nat → Int32) (x1 : Int32) (x2 : Int32) (k4 : Int32 → Int32 → Prop) (Z : Int32 → Unit → Prop) : Prop :=
  (k4 x1 (x2 + (1 : Int32)))
def v_Code_numberSections_14 (I0 : Nat → Int32) (I2 : Nat → Int32) (I3 : Nat → Int32) (I4 : Nat → Int32) (I5 : Nat → Int32) (x1 : Int32) (x2 : Int32) (k4 : Int32 → Int32 → Prop) (Z : Int32 → Unit → Prop) : Prop :=
  (v_Code_numberSections_31 I0 I2 I3 I4 I5 x1 x2 k4 Z)
def v_Code_numberSections_14v1 (I0 : Nat → Int32) (I2 : Nat → Int32) (I3 : Nat → Int32) (I4 : Nat → Int32) (I5 : Nat → Int32) (x1 : Int32) (x2 : Int32) (s0 : Nat) (k4 : Int32 → Int32 → Prop) (Z : Int32 → Unit → Prop) : Prop :=
  (s0 < 4 ∧ (s0 = 0 → (((I2 0) = (6 : Int32) → (v_Code_numberSections_31 I0 I2 I3 I4 I5 x1 x2 k4 Z)) ∧ (¬ (I2 0) = (6 : Int32) → (v_Code_numberSections_31 I0 I2 I3 I4 I5 (x1 + (1 : Int32)) x2 k4 Z)))) ∧ (s0 = 1 → (((I3 0) = (6 : Int32) → (v_Code_numberSections_31 I0 I2 I3 I4 I5 x1 x2 k4 Z)) ∧ (¬ (I3 0) = (6 : Int32) → (v_Code_numberSections_31 I0 I2 I3 I4 I5 (x1 + (1 : Int32)) x2 k4 Z)))) ∧ (s0 = 2 → (((I4 0) = (6 : Int32) → (v_Code_numberSections_31 I0 I2 I3 I4 I5 x1 x2 k4 Z)) ∧ (¬ (I4 0) = (6 : Int32) → (v_Code_numberSections_31 I0 I2 I3 I4 I5 (x1 + (1 : Int32)) x2 k4 Z)))) ∧ (s0 = 3 → (((I5 0) = (6 : Int32) → (v_Code_numberSections_31 I0 I2 I3 I4 I5 x1 x2 k4 Z)) ∧ (¬ (I5 0) = (6 : Int32) → (v_Code_numberSections_31 I0 I2 I3 I4 I5 (x1 + (1 : Int32)) x2 k4 Z)))))
def v_Code_numberSections_4 (I0 : Nat → Int32) (I2 : Nat → Int32) (I3 : Nat → Int32) (I4 : Nat → Int32) (I5 : Nat → Int32)  (Z : Int32 → Unit → Prop) : Nat → Int32 → Int32 → Prop
  | 0 => fun _ _ => False
  | N + 1 => fun x1 x2 => (((3 : Int32) ≤ x2 → (Z x1 ())) ∧ (¬ (3 : Int32) ≤ x2 → (v_Code_section_0 I0 x2 (fun r u => ((r = none → (v_Code_numberSections_14 I0 I2 I3 I4 I5 x1 x2 (v_Code_numberSections_4 I0 I2 I3 I4 I5  Z N) Z)) ∧ (∀ j : Nat, r = some j → (v_Code_numberSections_14v1 I0 I2 I3 I4 I5 x1 x2 j (v_Code_numberSections_4 I0 I2 I3 I4 I5  Z N) Z)))))))
def v_Code_numberSections_0 (I0 : Nat → Int32) (I2 : Nat → Int32) (I3 : Nat → Int32) (I4 : Nat → Int32) (I5 : Nat → Int32)  (Z : Int32 → Unit → Prop) : Prop :=
  (∃ Nx, v_Code_numberSections_4 I0 I2 I3 I4 I5  Z Nx (0 : Int32) (0 : Int32))
def v_Code_sectionForText_37 (I0 : Nat → Int32) (I2 : Nat → Int32) (I3 : Nat → Int32) (I4 : Nat → Int32) (I5 : Nat → Int32) (s0 : Int32)  (Z : Int32 → Unit → Prop) : Prop :=
  ((s0 = 0 → (Z (-1 : Int32) ())) ∧ (¬ s0 = 0 → (Z ((I0 1) - (1 : Int32)) ())))
def v_Code_sectionForText_36 (I0 : Nat → Int32) (I2 : Nat → Int32) (I3 : Nat → Int32) (I4 : Nat → Int32) (I5 : Nat → Int32)  (Z : Int32 → Unit → Prop) : Prop :=
  (v_Code_sectionForText_37 I0 I2 I3 I4 I5 (0 : Int32)  Z)
def v_Code_sectionForText_10 (I0 : Nat → Int32) (I2 : Nat → Int32) (I3 : Nat → Int32) (I4 : Nat → Int32) (I5 : Nat → Int32)  (Z : Int32 → Unit → Prop) : Prop :=
  (v_Code_sectionForText_36 I0 I2 I3 I4 I5  Z)
def v_Code_sectionForText_32 (I0 : Nat → Int32) (I2 : Nat → Int32) (I3 : Nat → Int32) (I4 : Nat → Int32) (I5 : Nat → Int32)  (Z : Int32 → Unit → Prop) : Prop :=
  (v_Code_sectionForText_37 I0 I2 I3 I4 I5 (1 : Int32)  Z)
def v_Code_sectionForText_10v1 (I0 : Nat → Int32) (I2 : Nat → Int32) (I3 : Nat → Int32) (I4 : Nat → Int32) (I5 : Nat → Int32) (s0 : Nat)  (Z : Int32 → Unit → Prop) : Prop :=
  (s0 < 4 ∧ (s0 = 0 → (((I2 0) = (6 : Int32) → (v_Code_sectionForText_32 I0 I2 I3 I4 I5  Z)) ∧ (¬ (I2 0) = (6 : Int32) → ((¬ (I0 1) = (4 : Int32) → (v_Code_sectionForText_36 I0 I2 I3 I4 I5  Z)) ∧ ((I0 1) = (4 : Int32) → (v_Code_sectionForText_32 I0 I2 I3 I4 I5  Z)))))) ∧ (s0 = 1 → (((I3 0) = (6 : Int32) → (v_Code_sectionForText_32 I0 I2 I3 I4 I5  Z)) ∧ (¬ (I3 0) = (6 : Int32) → ((¬ (I0 1) = (4 : Int32) → (v_Code_sectionForText_36 I0 I2 I3 I4 I5  Z)) ∧ ((I0 1) = (4 : Int32) → (v_Code_sectionForText_32 I0 I2 I3 I4 I5  Z)))))) ∧ (s0 = 2 → (((I4 0) = (6 : Int32) → (v_Code_sectionForText_32 I0 I2 I3 I4 I5  Z)) ∧ (¬ (I4 0) = (6 : Int32) → ((¬ (I0 1) = (4 : Int32) → (v_Code_sectionForText_36 I0 I2 I3 I4 I5  Z)) ∧ ((I0 1) = (4 : Int32) → (v_Code_sectionForText_32 I0 I2 I3 I4 I5  Z)))))) ∧ (s0 = 3 → (((I5 0) = (6 : Int32) → (v_Code_sectionForText_32 I0 I2 I3 I4 I5  Z)) ∧ (¬ (I5 0) = (6 : Int32) → ((¬ (I0 1) = (4 : Int32) → (v_Code_sectionForText_36 I0 I2 I3 I4 I5  Z)) ∧ ((I0 1) = (4 : Int32) → (v_Code_sectionForText_32 I0 I2 I3 I4 I5  Z)))))))
def v_Code_sectionForText_0 (I0 : Nat → Int32) (I2 : Nat → Int32) (I3 : Nat → Int32) (I4 : Nat → Int32) (I5 : Nat → Int32)  (Z : Int32 → Unit → Prop) : Prop :=
  (v_Code_section_0 I0 ((I0 1) - (1 : Int32)) (fun r u => ((r = none → (v_Code_sectionForText_10 I0 I2 I3 I4 I5  Z)) ∧ (∀ j : Nat, r = some j → (v_Code_sectionForText_10v1 I0 I2 I3 I4 I5 j  Z)))))
def v_Code_sectionFor_11 (I0 : Nat → Int32) (I1 : Nat → Int32) (J1 : Nat → Int64) (I3 : Nat → Int32) (I4 : Nat → Int32) (I5 : Nat → Int32) (I6 : Nat → Int32) (s0 : Int32)  (Z : Int32 → Unit → Prop) : Prop :=
  (Z s0 ())
def v_Code_sectionFor_37 (I0 : Nat → Int32) (I1 : Nat → Int32) (J1 : Nat → Int64) (I3 : Nat → Int32) (I4 : Nat → Int32) (I5 : Nat → Int32) (I6 : Nat → Int32) (x2 : Int32)  (Z : Int32 → Unit → Prop) : Prop :=
  ((¬ x2 = (3 : Int32) → (Z (0 : Int32) ())) ∧ (x2 = (3 : Int32) → ((¬ (J1 2) = (0 : Int64) → (Z (0 : Int32) ())) ∧ ((J1 2) = (0 : Int64) → (Z (2 : Int32) ())))))
def v_Code_sectionFor_16 (I0 : Nat → Int32) (I1 : Nat → Int32) (J1 : Nat → Int64) (I3 : Nat → Int32) (I4 : Nat → Int32) (I5 : Nat → Int32) (I6 : Nat → Int32) (s0 : Int32)  (Z : Int32 → Unit → Prop) : Prop :=
  ((¬ s0 = 0 → ((s0 < (2 : Int32) → (v_Code_sectionFor_37 I0 I1 J1 I3 I4 I5 I6 s0  Z)) ∧ (¬ s0 < (2 : Int32) → (((I1 1) = 0 → (v_Code_sectionFor_37 I0 I1 J1 I3 I4 I5 I6 s0  Z)) ∧ (¬ (I1 1) = 0 → (Z (1 : Int32) ())))))) ∧ (s0 = 0 → (Z (-1 : Int32) ())))
def v_Code_sectionFor_0 (I0 : Nat → Int32) (I1 : Nat → Int32) (J1 : Nat → Int64) (I3 : Nat → Int32) (I4 : Nat → Int32) (I5 : Nat → Int32) (I6 : Nat → Int32)  (Z : Int32 → Unit → Prop) : Prop :=
  (((I1 0) = 0 → (v_Code_numberSections_0 I0 I3 I4 I5 I6 (fun r u => (v_Code_sectionFor_16 I0 I1 J1 I3 I4 I5 I6 r  Z)))) ∧ (¬ (I1 0) = 0 → (v_Code_sectionForText_0 I0 I3 I4 I5 I6 (fun r u => (v_Code_sectionFor_11 I0 I1 J1 I3 I4 I5 I6 r  Z)))))
def v_DateDresser_monthName_0 (x0 : Int32)  (Z : Nat → Unit → Prop) : Prop :=
  ((x0 = (1 : Int32) → (Z 13 ())) ∧ (¬ x0 = (1 : Int32) → ((x0 = (2 : Int32) → (Z 14 ())) ∧ (¬ x0 = (2 : Int32) → ((x0 = (3 : Int32) → (Z 15 ())) ∧ (¬ x0 = (3 : Int32) → ((x0 = (4 : Int32) → (Z 16 ())) ∧ (¬ x0 = (4 : Int32) → ((x0 = (5 : Int32) → (Z 17 ())) ∧ (¬ x0 = (5 : Int32) → ((x0 = (6 : Int32) → (Z 18 ())) ∧ (¬ x0 = (6 : Int32) → ((x0 = (7 : Int32) → (Z 19 ())) ∧ (¬ x0 = (7 : Int32) → ((x0 = (8 : Int32) → (Z 20 ())) ∧ (¬ x0 = (8 : Int32) → ((x0 = (9 : Int32) → (Z 21 ())) ∧ (¬ x0 = (9 : Int32) → ((x0 = (10 : Int32) → (Z 22 ())) ∧ (¬ x0 = (10 : Int32) → ((x0 = (11 : Int32) → (Z 23 ())) ∧ (¬ x0 = (11 : Int32) → (Z 24 ())))))))))))))))))))))))
def v_Look_put_53 (I0 : Nat → Int32) (n1 : Nat) (f1 : Nat → Int32) (x1 : Int32)  (NF : Nat) (Z : (Nat → Int32) × Nat × (Nat → Int32) → Prop) : Prop :=
  (((I0 1) < 0 → (n1 = NF ∧ Z (I0, n1, f1))) ∧ (¬ (I0 1) < 0 → (((nI n1) ≤ (I0 1) → (n1 = NF ∧ Z (I0, n1, f1))) ∧ (¬ (nI n1) ≤ (I0 1) → (vp_in (I0 1) n1 ∧ (n1 = NF ∧ Z ((zu I0 1 ((I0 1) + (1 : Int32))), n1, (upd f1 (I0 1).toNatClampNeg (vp_nar .char (x1.toUInt32 % 65536).toInt32)))))))))
def v_Look_put_0 (I0 : Nat → Int32) (n1 : Nat) (f1 : Nat → Int32) (x1 : Int32)  (NF : Nat) (Z : (Nat → Int32) × Nat × (Nat → Int32) → Prop) : Prop :=
  ((I0 1 < (nI n1) → (v_Look_put_53 I0 n1 f1 x1  NF Z)) ∧ (¬ I0 1 < (nI n1) → (((4096 : Int32) ≤ (nI n1) → (v_Look_put_53 I0 n1 f1 x1  NF Z)) ∧ (¬ (4096 : Int32) ≤ (nI n1) → (n1 * 2 ≤ 4096 ∧ (n1 * 2 ≤ NF ∧ 0 < n1) ∧ (∀ i, i < n1 → zc (f1 i)) ∧ (v_Look_put_53 I0 (n1 * 2) (va_cpy f1 (fun _ => 0) (0 : Int32).toNatClampNeg (0 : Int32).toNatClampNeg (nI n1).toNatClampNeg) x1  NF Z))))))
def v_DateDresser_putName_53 (I0 : Nat → Int32) (J0 : Nat → Int64) (I1 : Nat → Int32) (n2 : Nat) (f2 : Nat → Int32) (x1 : Nat) (x4 : Int32) (x5 : Int32) (k27 : (Nat → Int32) → Nat → (Nat → Int32) → Int32 → Prop) (NF : Nat) (Z : (Nat → Int32) × Nat × (Nat → Int32) → Prop) : Prop :=
  (k27 I1 n2 f2 (x5 + (1 : Int32)))
def v_DateDresser_putName_50 (I0 : Nat → Int32) (J0 : Nat → Int64) (I1 : Nat → Int32) (n2 : Nat) (f2 : Nat → Int32) (x1 : Nat) (x4 : Int32) (x5 : Int32) (s1 : Int32) (k27 : (Nat → Int32) → Nat → (Nat → Int32) → Int32 → Prop) (NF : Nat) (Z : (Nat → Int32) × Nat × (Nat → Int32) → Prop) : Prop :=
  (∃ Nc, n2 ≤ Nc ∧ Nc ≤ NF ∧ (v_Look_put_0 I1 n2 f2 s1 Nc (fun u => (v_DateDresser_putName_53 I0 J0 u.1 u.2.1 u.2.2 x1 x4 x5 k27 NF Z))))
def v_DateDresser_putName_40 (I0 : Nat → Int32) (J0 : Nat → Int64) (I1 : Nat → Int32) (n2 : Nat) (f2 : Nat → Int32) (x1 : Nat) (x4 : Int32) (x5 : Int32) (s0 : Int32) (s1 : Int32) (k27 : (Nat → Int32) → Nat → (Nat → Int32) → Int32 → Prop) (NF : Nat) (Z : (Nat → Int32) × Nat × (Nat → Int32) → Prop) : Prop :=
  ((s1 ≤ s0 → (n2 = NF ∧ Z (I1, n2, f2))) ∧ (¬ s1 ≤ s0 → (x1 < nZS ∧ (v_S_charAt_0 x1 x5 (fun r u => (v_DateDresser_putName_50 I0 J0 I1 n2 f2 x1 x4 x5 r k27 NF Z))))))
def v_DateDresser_putName_27 (I0 : Nat → Int32) (J0 : Nat → Int64) (x1 : Nat) (x4 : Int32)  (NF : Nat) (Z : (Nat → Int32) × Nat × (Nat → Int32) → Prop) : Nat → (Nat → Int32) → Nat → (Nat → Int32) → Int32 → Prop
  | 0 => fun _ _ _ _ => False
  | N + 1 => fun I1 n2 f2 x5 => ((x4 ≤ x5 → (n2 = NF ∧ Z (I1, n2, f2))) ∧ (¬ x4 ≤ x5 → (x1 < nZS ∧ (v_S_length_0 x1 (fun r u => (v_DateDresser_putName_40 I0 J0 I1 n2 f2 x1 x4 x5 x5 r (v_DateDresser_putName_27 I0 J0 x1 x4  NF Z N) NF Z))))))
def v_DateDresser_putName_22 (I0 : Nat → Int32) (J0 : Nat → Int64) (I1 : Nat → Int32) (n2 : Nat) (f2 : Nat → Int32) (x1 : Nat) (s0 : Int32)  (NF : Nat) (Z : (Nat → Int32) × Nat × (Nat → Int32) → Prop) : Prop :=
  (∃ Nx, v_DateDresser_putName_27 I0 J0 x1 s0  NF Z Nx I1 n2 f2 (0 : Int32))
def v_DateDresser_putName_18 (I0 : Nat → Int32) (J0 : Nat → Int64) (I1 : Nat → Int32) (n2 : Nat) (f2 : Nat → Int32) (x1 : Nat) (s0 : Int32)  (NF : Nat) (Z : (Nat → Int32) × Nat × (Nat → Int32) → Prop) : Prop :=
  (v_DateDresser_putName_22 I0 J0 I1 n2 f2 x1 s0  NF Z)
def v_DateDresser_putName_0 (I0 : Nat → Int32) (J0 : Nat → Int64) (I1 : Nat → Int32) (n2 : Nat) (f2 : Nat → Int32) (x1 : Nat) (x2 : Int32)  (NF : Nat) (Z : (Nat → Int32) × Nat × (Nat → Int32) → Prop) : Prop :=
  ((¬ x2 = (3 : Int32) → ((¬ x2 = (4 : Int32) → (v_DateDresser_putName_22 I0 J0 I1 n2 f2 x1 (1 : Int32)  NF Z)) ∧ (x2 = (4 : Int32) → (x1 < nZS ∧ (v_S_length_0 x1 (fun r u => (v_DateDresser_putName_18 I0 J0 I1 n2 f2 x1 r  NF Z))))))) ∧ (x2 = (3 : Int32) → (v_DateDresser_putName_22 I0 J0 I1 n2 f2 x1 (3 : Int32)  NF Z)))
def v_DateDresser_weekdayName_0 (x0 : Int32)  (Z : Nat → Unit → Prop) : Prop :=
  ((x0 = (0 : Int32) → (Z 25 ())) ∧ (¬ x0 = (0 : Int32) → ((x0 = (1 : Int32) → (Z 26 ())) ∧ (¬ x0 = (1 : Int32) → ((x0 = (2 : Int32) → (Z 27 ())) ∧ (¬ x0 = (2 : Int32) → ((x0 = (3 : Int32) → (Z 28 ())) ∧ (¬ x0 = (3 : Int32) → ((x0 = (4 : Int32) → (Z 29 ())) ∧ (¬ x0 = (4 : Int32) → ((x0 = (5 : Int32) → (Z 30 ())) ∧ (¬ x0 = (5 : Int32) → (Z 31 ())))))))))))))
def v_ND_tenTo_0 (x0 : Int32)  (Z : Int64 → Unit → Prop) : Prop :=
  ((x0 < 0 → (Z (1 : Int64) ())) ∧ (¬ x0 < 0 → (((19 : Int32) ≤ x0 → (Z (1 : Int64) ())) ∧ (¬ (19 : Int32) ≤ x0 → (vp_in x0 19 ∧ (Z (zTens x0.toNatClampNeg) ()))))))
def v_Look_putNumber_50 (I0 : Nat → Int32) (n1 : Nat) (f1 : Nat → Int32) (x1 : Int64) (x3 : Int32) (x4 : Int32) (k8 : (Nat → Int32) → Nat → (Nat → Int32) → Int32 → Prop) (NF : Nat) (Z : (Nat → Int32) × Nat × (Nat → Int32) → Prop) : Prop :=
  (k8 I0 n1 f1 (x4 + (-1 : Int32)))
def v_Look_putNumber_33 (I0 : Nat → Int32) (n1 : Nat) (f1 : Nat → Int32) (x1 : Int64) (x3 : Int32) (x4 : Int32) (x5 : Int64) (k8 : (Nat → Int32) → Nat → (Nat → Int32) → Int32 → Prop) (NF : Nat) (Z : (Nat → Int32) × Nat × (Nat → Int32) → Prop) : Prop :=
  (¬ x5 = 0 ∧ (∃ Nc, n1 ≤ Nc ∧ Nc ≤ NF ∧ (v_Look_put_0 I0 n1 f1 ((48 : Int64) + ((x1 / x5) - (x1 / x5) / (10 : Int64) * (10 : Int64))).toInt32 Nc (fun u => (v_Look_putNumber_50 u.1 u.2.1 u.2.2 x1 x3 x4 k8 NF Z)))))
def v_Look_putNumber_18 (I0 : Nat → Int32) (n1 : Nat) (f1 : Nat → Int32) (x1 : Int64) (x3 : Int32) (x4 : Int32) (s0 : Int64) (k8 : (Nat → Int32) → Nat → (Nat → Int32) → Int32 → Prop) (NF : Nat) (Z : (Nat → Int32) × Nat × (Nat → Int32) → Prop) : Prop :=
  ((x4 < x3 → (v_Look_putNumber_33 I0 n1 f1 x1 x3 x4 s0 k8 NF Z)) ∧ (¬ x4 < x3 → ((x1 < s0 → (v_Look_putNumber_50 I0 n1 f1 x1 x3 x4 k8 NF Z)) ∧ (¬ x1 < s0 → (v_Look_putNumber_33 I0 n1 f1 x1 x3 x4 s0 k8 NF Z)))))
def v_Look_putNumber_8 (x1 : Int64) (x3 : Int32)  (NF : Nat) (Z : (Nat → Int32) × Nat × (Nat → Int32) → Prop) : Nat → (Nat → Int32) → Nat → (Nat → Int32) → Int32 → Prop
  | 0 => fun _ _ _ _ => False
  | N + 1 => fun I0 n1 f1 x4 => ((x4 < 0 → (n1 = NF ∧ Z (I0, n1, f1))) ∧ (¬ x4 < 0 → (v_ND_tenTo_0 x4 (fun r u => (v_Look_putNumber_18 I0 n1 f1 x1 x3 x4 r (v_Look_putNumber_8 x1 x3  NF Z N) NF Z)))))
def v_Look_putNumber_0 (I0 : Nat → Int32) (n1 : Nat) (f1 : Nat → Int32) (x1 : Int64) (x3 : Int32)  (NF : Nat) (Z : (Nat → Int32) × Nat × (Nat → Int32) → Prop) : Prop :=
  (∃ Nx, v_Look_putNumber_8 x1 x3  NF Z Nx I0 n1 f1 ((19 : Int32) - (1 : Int32)))
def v_DateDresser_putDay_109 (I0 : Nat → Int32) (J0 : Nat → Int64) (I1 : Nat → Int32) (n2 : Nat) (f2 : Nat → Int32)  (NF : Nat) (Z : (Nat → Int32) × Nat × (Nat → Int32) → Prop) : Prop :=
  (n2 = NF ∧ Z (I1, n2, f2))
def v_DateDresser_putDay_32 (I0 : Nat → Int32) (J0 : Nat → Int64) (I1 : Nat → Int32) (n2 : Nat) (f2 : Nat → Int32)  (NF : Nat) (Z : (Nat → Int32) × Nat × (Nat → Int32) → Prop) : Prop :=
  (v_DateDresser_putDay_109 I0 J0 I1 n2 f2  NF Z)
def v_DateDresser_putDay_28 (I0 : Nat → Int32) (J0 : Nat → Int64) (I1 : Nat → Int32) (n2 : Nat) (f2 : Nat → Int32) (x2 : Int32) (s1 : Int64)  (NF : Nat) (Z : (Nat → Int32) × Nat × (Nat → Int32) → Prop) : Prop :=
  (∃ Nc, n2 ≤ Nc ∧ Nc ≤ NF ∧ (v_Look_putNumber_0 I1 n2 f2 s1 x2 Nc (fun u => (v_DateDresser_putDay_32 I0 J0 u.1 u.2.1 u.2.2  NF Z))))
def v_DateDresser_putDay_64 (I0 : Nat → Int32) (J0 : Nat → Int64) (I1 : Nat → Int32) (n2 : Nat) (f2 : Nat → Int32)  (NF : Nat) (Z : (Nat → Int32) × Nat × (Nat → Int32) → Prop) : Prop :=
  (v_DateDresser_putDay_109 I0 J0 I1 n2 f2  NF Z)
def v_DateDresser_putDay_60 (I0 : Nat → Int32) (J0 : Nat → Int64) (I1 : Nat → Int32) (n2 : Nat) (f2 : Nat → Int32) (x2 : Int32) (s1 : Int64)  (NF : Nat) (Z : (Nat → Int32) × Nat × (Nat → Int32) → Prop) : Prop :=
  (∃ Nc, n2 ≤ Nc ∧ Nc ≤ NF ∧ (v_Look_putNumber_0 I1 n2 f2 s1 x2 Nc (fun u => (v_DateDresser_putDay_64 I0 J0 u.1 u.2.1 u.2.2  NF Z))))
def v_DateDresser_putDay_99 (I0 : Nat → Int32) (J0 : Nat → Int64) (I1 : Nat → Int32) (n2 : Nat) (f2 : Nat → Int32) (x2 : Int32) (s0 : Nat)  (NF : Nat) (Z : (Nat → Int32) × Nat × (Nat → Int32) → Prop) : Prop :=
  (∃ Nc, n2 ≤ Nc ∧ Nc ≤ NF ∧ (v_DateDresser_putName_0 I0 J0 I1 n2 f2 s0 x2 Nc (fun u => (v_DateDresser_putDay_109 I0 J0 u.1 u.2.1 u.2.2  NF Z))))
def v_DateDresser_putDay_80 (I0 : Nat → Int32) (J0 : Nat → Int64) (I1 : Nat → Int32) (n2 : Nat) (f2 : Nat → Int32) (x2 : Int32) (s0 : Nat)  (NF : Nat) (Z : (Nat → Int32) × Nat × (Nat → Int32) → Prop) : Prop :=
  (v_DateDresser_putDay_99 I0 J0 I1 n2 f2 x2 s0  NF Z)
def v_DateDresser_putDay_0 (I0 : Nat → Int32) (J0 : Nat → Int64) (I1 : Nat → Int32) (n2 : Nat) (f2 : Nat → Int32) (x1 : Int32) (x2 : Int32)  (NF : Nat) (Z : (Nat → Int32) × Nat × (Nat → Int32) → Prop) : Prop :=
  ((¬ x1 = (20 : Int32) → (((2 : Int32) < x2 → ((¬ x1 = (21 : Int32) → (v_DateDresser_weekdayName_0 (((J0 1) + (6 : Int64)) - ((J0 1) + (6 : Int64)) / (7 : Int64) * (7 : Int64)).toInt32 (fun r u => (v_DateDresser_putDay_99 I0 J0 I1 n2 f2 x2 r  NF Z)))) ∧ (x1 = (21 : Int32) → (v_DateDresser_monthName_0 (I0 5) (fun r u => (v_DateDresser_putDay_80 I0 J0 I1 n2 f2 x2 r  NF Z)))))) ∧ (¬ (2 : Int32) < x2 → ((¬ x1 = (21 : Int32) → (v_DateDresser_putDay_60 I0 J0 I1 n2 f2 x2 (I0 6).toInt64  NF Z)) ∧ (x1 = (21 : Int32) → (v_DateDresser_putDay_60 I0 J0 I1 n2 f2 x2 (I0 5).toInt64  NF Z)))))) ∧ (x1 = (20 : Int32) → ((¬ x2 = (2 : Int32) → (v_DateDresser_putDay_28 I0 J0 I1 n2 f2 x2 (I0 4).toInt64  NF Z)) ∧ (x2 = (2 : Int32) → (v_DateDresser_putDay_28 I0 J0 I1 n2 f2 x2 ((I0 4) - (I0 4) / (100 : Int32) * (100 : Int32)).toInt64  NF Z)))))
def v_DateDresser_putTime_248 (I0 : Nat → Int32) (J0 : Nat → Int64) (I1 : Nat → Int32) (n2 : Nat) (f2 : Nat → Int32)  (NF : Nat) (Z : (Nat → Int32) × Nat × (Nat → Int32) → Prop) : Prop :=
  (n2 = NF ∧ Z (I1, n2, f2))
def v_DateDresser_putTime_100 (I0 : Nat → Int32) (J0 : Nat → Int64) (I1 : Nat → Int32) (n2 : Nat) (f2 : Nat → Int32)  (NF : Nat) (Z : (Nat → Int32) × Nat × (Nat → Int32) → Prop) : Prop :=
  (v_DateDresser_putTime_248 I0 J0 I1 n2 f2  NF Z)
def v_DateDresser_putTime_117 (I0 : Nat → Int32) (J0 : Nat → Int64) (I1 : Nat → Int32) (n2 : Nat) (f2 : Nat → Int32)  (NF : Nat) (Z : (Nat → Int32) × Nat × (Nat → Int32) → Prop) : Prop :=
  (v_DateDresser_putTime_248 I0 J0 I1 n2 f2  NF Z)
def v_DateDresser_putTime_137 (I0 : Nat → Int32) (J0 : Nat → Int64) (I1 : Nat → Int32) (n2 : Nat) (f2 : Nat → Int32)  (NF : Nat) (Z : (Nat → Int32) × Nat × (Nat → Int32) → Prop) : Prop :=
  (v_DateDresser_putTime_248 I0 J0 I1 n2 f2  NF Z)
def v_DateDresser_putTime_163 (I0 : Nat → Int32) (J0 : Nat → Int64) (I1 : Nat → Int32) (n2 : Nat) (f2 : Nat → Int32)  (NF : Nat) (Z : (Nat → Int32) × Nat × (Nat → Int32) → Prop) : Prop :=
  (v_DateDresser_putTime_248 I0 J0 I1 n2 f2  NF Z)
def v_DateDresser_putTime_185 (I0 : Nat → Int32) (J0 : Nat → Int64) (I1 : Nat → Int32) (n2 : Nat) (f2 : Nat → Int32)  (NF : Nat) (Z : (Nat → Int32) × Nat × (Nat → Int32) → Prop) : Prop :=
  (v_DateDresser_putTime_248 I0 J0 I1 n2 f2  NF Z)
def v_DateDresser_putTime_212 (I0 : Nat → Int32) (J0 : Nat → Int64) (I1 : Nat → Int32) (n2 : Nat) (f2 : Nat → Int32)  (NF : Nat) (Z : (Nat → Int32) × Nat × (Nat → Int32) → Prop) : Prop :=
  (v_DateDresser_putTime_248 I0 J0 I1 n2 f2  NF Z)
def v_DateDresser_putTime_207 (I0 : Nat → Int32) (J0 : Nat → Int64) (I1 : Nat → Int32) (n2 : Nat) (f2 : Nat → Int32) (x2 : Int32) (s1 : Int64) (s2 : Int64)  (NF : Nat) (Z : (Nat → Int32) × Nat × (Nat → Int32) → Prop) : Prop :=
  (¬ s2 = 0 ∧ (∃ Nc, n2 ≤ Nc ∧ Nc ≤ NF ∧ (v_Look_putNumber_0 I1 n2 f2 (s1 / s2) x2 Nc (fun u => (v_DateDresser_putTime_212 I0 J0 u.1 u.2.1 u.2.2  NF Z)))))
def v_DateDresser_putTime_195 (I0 : Nat → Int32) (J0 : Nat → Int64) (I1 : Nat → Int32) (n2 : Nat) (f2 : Nat → Int32) (x2 : Int32)  (NF : Nat) (Z : (Nat → Int32) × Nat × (Nat → Int32) → Prop) : Prop :=
  (v_ND_tenTo_0 ((3 : Int32) - x2) (fun r u => (v_DateDresser_putTime_207 I0 J0 I1 n2 f2 x2 (J0 3) r  NF Z)))
def v_DateDresser_putTime_236 (I0 : Nat → Int32) (J0 : Nat → Int64) (I1 : Nat → Int32) (n2 : Nat) (f2 : Nat → Int32) (x2 : Int32)  (NF : Nat) (Z : (Nat → Int32) × Nat × (Nat → Int32) → Prop) : Prop :=
  ((¬ x2 = (2 : Int32) → (v_DateDresser_putTime_248 I0 J0 I1 n2 f2  NF Z)) ∧ (x2 = (2 : Int32) → (∃ Nc, n2 ≤ Nc ∧ Nc ≤ NF ∧ (v_Look_put_0 I1 n2 f2 (77 : Int32) Nc (fun u => (v_DateDresser_putTime_248 I0 J0 u.1 u.2.1 u.2.2  NF Z))))))
def v_DateDresser_putTime_233 (I0 : Nat → Int32) (J0 : Nat → Int64) (I1 : Nat → Int32) (n2 : Nat) (f2 : Nat → Int32) (x2 : Int32) (s1 : Int32)  (NF : Nat) (Z : (Nat → Int32) × Nat × (Nat → Int32) → Prop) : Prop :=
  (∃ Nc, n2 ≤ Nc ∧ Nc ≤ NF ∧ (v_Look_put_0 I1 n2 f2 s1 Nc (fun u => (v_DateDresser_putTime_236 I0 J0 u.1 u.2.1 u.2.2 x2  NF Z))))
def v_DateDresser_putTime_79 (I0 : Nat → Int32) (J0 : Nat → Int64) (I1 : Nat → Int32) (n2 : Nat) (f2 : Nat → Int32)  (NF : Nat) (Z : (Nat → Int32) × Nat × (Nat → Int32) → Prop) : Prop :=
  (v_DateDresser_putTime_248 I0 J0 I1 n2 f2  NF Z)
def v_DateDresser_putTime_75 (I0 : Nat → Int32) (J0 : Nat → Int64) (I1 : Nat → Int32) (n2 : Nat) (f2 : Nat → Int32) (x2 : Int32) (s1 : Int64)  (NF : Nat) (Z : (Nat → Int32) × Nat × (Nat → Int32) → Prop) : Prop :=
  (∃ Nc, n2 ≤ Nc ∧ Nc ≤ NF ∧ (v_Look_putNumber_0 I1 n2 f2 s1 x2 Nc (fun u => (v_DateDresser_putTime_79 I0 J0 u.1 u.2.1 u.2.2  NF Z))))
def v_DateDresser_putTime_0 (I0 : Nat → Int32) (J0 : Nat → Int64) (I1 : Nat → Int32) (n2 : Nat) (f2 : Nat → Int32) (x1 : Int32) (x2 : Int32) (x3 : Int32)  (NF : Nat) (Z : (Nat → Int32) × Nat × (Nat → Int32) → Prop) : Prop :=
  ((x1 = (23 : Int32) → ((x3 = 0 → (v_DateDresser_putTime_75 I0 J0 I1 n2 f2 x2 ((J0 2) / (3600 : Int64))  NF Z)) ∧ (¬ x3 = 0 → (v_DateDresser_putTime_75 I0 J0 I1 n2 f2 x2 (((((J0 2) / (3600 : Int64)) + (11 : Int64)) - (((J0 2) / (3600 : Int64)) + (11 : Int64)) / (12 : Int64) * (12 : Int64)) + (1 : Int64))  NF Z)))) ∧ (¬ x1 = (23 : Int32) → ((x1 = (24 : Int32) → (∃ Nc, n2 ≤ Nc ∧ Nc ≤ NF ∧ (v_Look_putNumber_0 I1 n2 f2 (((J0 2) / (60 : Int64)) - ((J0 2) / (60 : Int64)) / (60 : Int64) * (60 : Int64)) x2 Nc (fun u => (v_DateDresser_putTime_100 I0 J0 u.1 u.2.1 u.2.2  NF Z))))) ∧ (¬ x1 = (24 : Int32) → ((x1 = (25 : Int32) → (∃ Nc, n2 ≤ Nc ∧ Nc ≤ NF ∧ (v_Look_putNumber_0 I1 n2 f2 ((J0 2) - (J0 2) / (60 : Int64) * (60 : Int64)) x2 Nc (fun u => (v_DateDresser_putTime_117 I0 J0 u.1 u.2.1 u.2.2  NF Z))))) ∧ (¬ x1 = (25 : Int32) → ((x1 = (26 : Int32) → (∃ Nc, n2 ≤ Nc ∧ Nc ≤ NF ∧ (v_Look_putNumber_0 I1 n2 f2 (((J0 1) * (24 : Int64)) + ((J0 2) / (3600 : Int64))) x2 Nc (fun u => (v_DateDresser_putTime_137 I0 J0 u.1 u.2.1 u.2.2  NF Z))))) ∧ (¬ x1 = (26 : Int32) → ((x1 = (27 : Int32) → (∃ Nc, n2 ≤ Nc ∧ Nc ≤ NF ∧ (v_Look_putNumber_0 I1 n2 f2 (((J0 1) * (1440 : Int64)) + ((J0 2) / (60 : Int64))) x2 Nc (fun u => (v_DateDresser_putTime_163 I0 J0 u.1 u.2.1 u.2.2  NF Z))))) ∧ (¬ x1 = (27 : Int32) → ((x1 = (28 : Int32) → (∃ Nc, n2 ≤ Nc ∧ Nc ≤ NF ∧ (v_Look_putNumber_0 I1 n2 f2 (((J0 1) * (86400 : Int64)) + (J0 2)) x2 Nc (fun u => (v_DateDresser_putTime_185 I0 J0 u.1 u.2.1 u.2.2  NF Z))))) ∧ (¬ x1 = (28 : Int32) → ((x1 = (29 : Int32) → (∃ Nc, n2 ≤ Nc ∧ Nc ≤ NF ∧ (v_Look_put_0 I1 n2 f2 (46 : Int32) Nc (fun u => (v_DateDresser_putTime_195 I0 J0 u.1 u.2.1 u.2.2 x2  NF Z))))) ∧ (¬ x1 = (29 : Int32) → (((12 : Int64) ≤ ((J0 2) / (3600 : Int64)) → (v_DateDresser_putTime_233 I0 J0 I1 n2 f2 x2 (80 : Int32)  NF Z)) ∧ (¬ (12 : Int64) ≤ ((J0 2) / (3600 : Int64)) → (v_DateDresser_putTime_233 I0 J0 I1 n2 f2 x2 (65 : Int32)  NF Z)))))))))))))))))
def v_DateDresser_takeCalendarDay_134 (I0 : Nat → Int32) (J0 : Nat → Int64) (s1 : Int32) (s2 : Int32)  (Z : (Nat → Int32) → Prop) : Prop :=
  (Z ((zu I0 4 (s1 + s2))))
def v_DateDresser_takeCalendarDay_105 (I0 : Nat → Int32) (J0 : Nat → Int64) (x2 : Int32) (x4 : Int32) (s1 : Int32)  (Z : (Nat → Int32) → Prop) : Prop :=
  (((2 : Int32) < s1 → (v_DateDresser_takeCalendarDay_134 (zu I0 5 s1) J0 (((1600 : Int32) + ((400 : Int32) * x2)) + x4) (0 : Int32)  Z)) ∧ (¬ (2 : Int32) < s1 → (v_DateDresser_takeCalendarDay_134 (zu I0 5 s1) J0 (((1600 : Int32) + ((400 : Int32) * x2)) + x4) (1 : Int32)  Z)))
def v_DateDresser_takeCalendarDay_0 (I0 : Nat → Int32) (J0 : Nat → Int64) (x1 : Int32)  (Z : (Nat → Int32) → Prop) : Prop :=
  (∀ y_1 : Int32, y_1 = (x1 - x1 / (146097 : Int32) * (146097 : Int32)) → (∀ y_2 : Int32, y_2 = ((((y_1 - (y_1 / (1460 : Int32))) + (y_1 / (36524 : Int32))) - (y_1 / (146096 : Int32))) / (365 : Int32)) → (∀ y_3 : Int32, y_3 = (y_1 - ((((365 : Int32) * y_2) + (y_2 / (4 : Int32))) - (y_2 / (100 : Int32)))) → (∀ y_4 : Int32, y_4 = ((((5 : Int32) * y_3) + (2 : Int32)) / (153 : Int32)) → (∀ y_5 : Int32, y_5 = ((y_3 - ((((153 : Int32) * y_4) + (2 : Int32)) / (5 : Int32))) + (1 : Int32)) → (((10 : Int32) ≤ y_4 → (v_DateDresser_takeCalendarDay_105 (zu I0 6 y_5) J0 (x1 / (146097 : Int32)) y_2 (y_4 - (9 : Int32))  Z)) ∧ (¬ (10 : Int32) ≤ y_4 → (v_DateDresser_takeCalendarDay_105 (zu I0 6 y_5) J0 (x1 / (146097 : Int32)) y_2 (y_4 + (3 : Int32))  Z))))))))
def v_DateDresser_takeDay_17 (I0 : Nat → Int32) (J0 : Nat → Int64)  (Z : (Nat → Int32) → Prop) : Prop :=
  (Z (I0))
def v_DateDresser_takeDay_55 (I0 : Nat → Int32) (J0 : Nat → Int64) (s1 : Int32)  (Z : (Nat → Int32) → Prop) : Prop :=
  (Z ((zu I0 6 s1)))
def v_DateDresser_takeDay_37 (I0 : Nat → Int32) (J0 : Nat → Int64) (x1 : Int32) (s1 : Int32)  (Z : (Nat → Int32) → Prop) : Prop :=
  (((31 : Int32) < x1 → (v_DateDresser_takeDay_55 (zu I0 5 s1) J0 (x1 - (31 : Int32))  Z)) ∧ (¬ (31 : Int32) < x1 → (v_DateDresser_takeDay_55 (zu I0 5 s1) J0 x1  Z)))
def v_DateDresser_takeDay_0 (I0 : Nat → Int32) (J0 : Nat → Int64) (x1 : Int32)  (Z : (Nat → Int32) → Prop) : Prop :=
  ((x1 < (61 : Int32) → (((31 : Int32) < x1 → (v_DateDresser_takeDay_37 (zu I0 4 (1900 : Int32)) J0 x1 (2 : Int32)  Z)) ∧ (¬ (31 : Int32) < x1 → (v_DateDresser_takeDay_37 (zu I0 4 (1900 : Int32)) J0 x1 (1 : Int32)  Z)))) ∧ (¬ x1 < (61 : Int32) → (v_DateDresser_takeCalendarDay_0 I0 J0 ((x1 - (61 : Int32)) + (109572 : Int32)) (fun u => (v_DateDresser_takeDay_17 u J0  Z)))))
def v_DateDresser_partsOfDay_0 (I0 : Nat → Int32) (J0 : Nat → Int64) (J1 : Nat → Int64) (x1 : Int64)  (Z : Int64 → Unit → Prop) : Prop :=
  (∀ y_1 : Int64, y_1 = ((J1 1) - (J1 1) / (100000000 : Int64) * (100000000 : Int64)) → (∀ y_2 : Int64, y_2 = ((((J1 1) / (100000000 : Int64)) * x1) + ((y_1 * x1) / (100000000 : Int64))) → (Z ((y_2 + (5000000 : Int64)) / (10000000 : Int64)) ())))
def v_Digits_small_11 (I0 : Nat → Int32) (J0 : Nat → Int64) (s0 : Int64) (s1 : Int64)  (Z : Int64 → Unit → Prop) : Prop :=
  (Z (s0 * s1) ())
def v_Digits_small_0 (I0 : Nat → Int32) (J0 : Nat → Int64)  (Z : Int64 → Unit → Prop) : Prop :=
  (v_ND_tenTo_0 (I0 1) (fun r u => (v_Digits_small_11 I0 J0 (J0 0) r  Z)))
def v_DateDresser_takeTime_78 (I0 : Nat → Int32) (J0 : Nat → Int64) (J1 : Nat → Int64) (I2 : Nat → Int32) (J2 : Nat → Int64) (s1 : Int64) (s2 : Int64)  (Z : (Nat → Int64) → Prop) : Prop :=
  (Z ((zul J0 3 (s1 * s2))))
def v_DateDresser_takeTime_59 (I0 : Nat → Int32) (J0 : Nat → Int64) (J1 : Nat → Int64) (I2 : Nat → Int32) (J2 : Nat → Int64) (x1 : Int32) (x2 : Int64) (x6 : Int64)  (Z : (Nat → Int64) → Prop) : Prop :=
  (¬ x2 = 0 ∧ (¬ x2 = 0 ∧ (v_ND_tenTo_0 ((3 : Int32) - x1) (fun r u => (v_DateDresser_takeTime_78 I0 (zul J0 2 (x6 / x2)) J1 I2 J2 (x6 - x6 / x2 * x2) r  Z)))))
def v_DateDresser_takeTime_31 (I0 : Nat → Int32) (J0 : Nat → Int64) (J1 : Nat → Int64) (I2 : Nat → Int32) (J2 : Nat → Int64) (x1 : Int32) (x2 : Int64) (x4 : Int64) (x6 : Int64) (s1 : Int64)  (Z : (Nat → Int64) → Prop) : Prop :=
  ((x6 < x4 → (v_DateDresser_takeTime_59 I0 (zul J0 1 s1) J1 I2 J2 x1 x2 x6  Z)) ∧ (¬ x6 < x4 → (v_DateDresser_takeTime_59 I0 (zul J0 1 (s1 + (1 : Int64))) J1 I2 J2 x1 x2 (x6 - x4)  Z)))
def v_DateDresser_takeTime_18 (I0 : Nat → Int32) (J0 : Nat → Int64) (J1 : Nat → Int64) (I2 : Nat → Int32) (J2 : Nat → Int64) (x1 : Int32) (x2 : Int64) (x4 : Int64) (s0 : Int64)  (Z : (Nat → Int64) → Prop) : Prop :=
  (v_Digits_small_0 I2 J2 (fun r u => (v_DateDresser_takeTime_31 I0 J0 J1 I2 J2 x1 x2 x4 s0 r  Z)))
def v_DateDresser_takeTime_4 (I0 : Nat → Int32) (J0 : Nat → Int64) (J1 : Nat → Int64) (I2 : Nat → Int32) (J2 : Nat → Int64) (x1 : Int32) (s0 : Int64)  (Z : (Nat → Int64) → Prop) : Prop :=
  (v_DateDresser_partsOfDay_0 I0 J0 J1 ((86400 : Int64) * s0) (fun r u => (v_DateDresser_takeTime_18 I0 J0 J1 I2 J2 x1 s0 ((86400 : Int64) * s0) r  Z)))
def v_DateDresser_takeTime_0 (I0 : Nat → Int32) (J0 : Nat → Int64) (J1 : Nat → Int64) (I2 : Nat → Int32) (J2 : Nat → Int64) (x1 : Int32)  (Z : (Nat → Int64) → Prop) : Prop :=
  (v_ND_tenTo_0 x1 (fun r u => (v_DateDresser_takeTime_4 I0 J0 J1 I2 J2 x1 r  Z)))
def v_Digits_wholes_0 (I0 : Nat → Int32) (J0 : Nat → Int64)  (Z : Int32 → Unit → Prop) : Prop :=
  (Z (zmax (0 : Int32) ((I0 2) - (I0 3))) ())
def v_ND_cutRounded_18 (x0 : Int64) (s0 : Int64)  (Z : Int64 → Unit → Prop) : Prop :=
  (¬ s0 = 0 ∧ (((x0 - ((x0 / s0) * s0)) < (s0 - (x0 - ((x0 / s0) * s0))) → (Z (x0 / s0) ())) ∧ (¬ (x0 - ((x0 / s0) * s0)) < (s0 - (x0 - ((x0 / s0) * s0))) → (Z ((x0 / s0) + (1 : Int64)) ()))))
def v_ND_cutRounded_0 (x0 : Int64) (x2 : Int32)  (Z : Int64 → Unit → Prop) : Prop :=
  ((0 < x2 → ((x2 ≤ (17 : Int32) → (v_ND_tenTo_0 x2 (fun r u => (v_ND_cutRounded_18 x0 r  Z)))) ∧ (¬ x2 ≤ (17 : Int32) → (Z (0 : Int64) ())))) ∧ (¬ 0 < x2 → (Z x0 ())))
def v_ND_digitsOf_15 (x0 : Int64) (x2 : Int32) (s0 : Int64) (s1 : Int64) (k2 : Int32 → Prop) (Z : Int32 → Unit → Prop) : Prop :=
  ((s0 < s1 → (Z x2 ())) ∧ (¬ s0 < s1 → (k2 (x2 + (1 : Int32)))))
def v_ND_digitsOf_2 (x0 : Int64)  (Z : Int32 → Unit → Prop) : Nat → Int32 → Prop
  | 0 => fun _ => False
  | N + 1 => fun x2 => (((19 : Int32) ≤ x2 → (Z x2 ())) ∧ (¬ (19 : Int32) ≤ x2 → (v_ND_tenTo_0 x2 (fun r u => (v_ND_digitsOf_15 x0 x2 x0 r (v_ND_digitsOf_2 x0  Z N) Z)))))
def v_ND_digitsOf_0 (x0 : Int64)  (Z : Int32 → Unit → Prop) : Prop :=
  (∃ Nx, v_ND_digitsOf_2 x0  Z Nx (0 : Int32))
def v_Digits_take_37 (I0 : Nat → Int32) (J0 : Nat → Int64) (x4 : Int32) (s1 : Int32)  (Z : (Nat → Int32) × (Nat → Int64) → Prop) : Prop :=
  (Z ((zu (zu I0 2 s1) 3 x4), J0))
def v_Digits_take_35 (I0 : Nat → Int32) (J0 : Nat → Int64) (x3 : Int32) (x4 : Int32) (s1 : Int32)  (Z : (Nat → Int32) × (Nat → Int64) → Prop) : Prop :=
  (v_Digits_take_37 I0 J0 x4 (s1 + x3)  Z)
def v_Digits_take_17 (I0 : Nat → Int32) (J0 : Nat → Int64) (x1 : Int64) (x3 : Int32) (x4 : Int32) (s1 : Int32)  (Z : (Nat → Int32) × (Nat → Int64) → Prop) : Prop :=
  ((¬ x1 = (0 : Int64) → (v_ND_digitsOf_0 x1 (fun r u => (v_Digits_take_35 (zu I0 1 s1) J0 x3 x4 r  Z)))) ∧ (x1 = (0 : Int64) → (v_Digits_take_37 (zu I0 1 s1) J0 x4 (0 : Int32)  Z)))
def v_Digits_take_0 (I0 : Nat → Int32) (J0 : Nat → Int64) (x1 : Int64) (x3 : Int32) (x4 : Int32)  (Z : (Nat → Int32) × (Nat → Int64) → Prop) : Prop :=
  ((¬ x1 = (0 : Int64) → (v_Digits_take_17 I0 (zul J0 0 x1) x1 x3 x4 x3  Z)) ∧ (x1 = (0 : Int64) → (v_Digits_take_17 I0 (zul J0 0 x1) x1 x3 x4 (0 : Int32)  Z)))
def v_Split_take_23 (J0 : Nat → Int64) (I1 : Nat → Int32) (J1 : Nat → Int64) (I2 : Nat → Int32) (J2 : Nat → Int64)  (Z : (Nat → Int64) × (Nat → Int32) × (Nat → Int64) → Prop) : Prop :=
  (Z ((zul J0 1 (0 : Int64)), I2, J2))
def v_Split_take_128 (J0 : Nat → Int64) (I1 : Nat → Int32) (J1 : Nat → Int64) (I2 : Nat → Int32) (J2 : Nat → Int64) (s1 : Int64)  (Z : (Nat → Int64) × (Nat → Int32) × (Nat → Int64) → Prop) : Prop :=
  (Z ((zul J0 1 s1), I2, J2))
def v_Split_take_115 (J0 : Nat → Int64) (I1 : Nat → Int32) (J1 : Nat → Int64) (I2 : Nat → Int32) (J2 : Nat → Int64) (s1 : Int64) (s2 : Int64)  (Z : (Nat → Int64) × (Nat → Int32) × (Nat → Int64) → Prop) : Prop :=
  (v_Split_take_128 J0 I1 J1 I2 J2 (s1 * s2)  Z)
def v_Split_take_99 (J0 : Nat → Int64) (I1 : Nat → Int32) (J1 : Nat → Int64) (I2 : Nat → Int32) (J2 : Nat → Int64) (x2 : Int32) (x6 : Int64)  (Z : (Nat → Int64) × (Nat → Int32) × (Nat → Int64) → Prop) : Prop :=
  (((15 : Int32) < x2 → (v_ND_cutRounded_0 x6 (x2 - (15 : Int32)) (fun r u => (v_Split_take_128 J0 I1 J1 I2 J2 r  Z)))) ∧ (¬ (15 : Int32) < x2 → (v_ND_tenTo_0 ((15 : Int32) - x2) (fun r u => (v_Split_take_115 J0 I1 J1 I2 J2 x6 r  Z)))))
def v_Split_take_86 (J0 : Nat → Int64) (I1 : Nat → Int32) (J1 : Nat → Int64) (I2 : Nat → Int32) (J2 : Nat → Int64) (x2 : Int32) (x4 : Int64) (s0 : Int64)  (Z : (Nat → Int64) × (Nat → Int32) × (Nat → Int64) → Prop) : Prop :=
  (v_Digits_take_0 I2 J2 x4 (0 : Int32) (0 : Int32) (fun u => (v_Split_take_99 J0 I1 J1 u.1 u.2 x2 s0  Z)))
def v_Split_take_85 (J0 : Nat → Int64) (I1 : Nat → Int32) (J1 : Nat → Int64) (I2 : Nat → Int32) (J2 : Nat → Int64) (x2 : Int32) (x4 : Int64) (s0 : Int64) (s1 : Int64)  (Z : (Nat → Int64) × (Nat → Int32) × (Nat → Int64) → Prop) : Prop :=
  (¬ s1 = 0 ∧ (v_Split_take_86 J0 I1 J1 I2 J2 x2 x4 (s0 - s0 / s1 * s1)  Z))
def v_Split_take_64 (J0 : Nat → Int64) (I1 : Nat → Int32) (J1 : Nat → Int64) (I2 : Nat → Int32) (J2 : Nat → Int64) (x2 : Int32) (x3 : Int32) (s0 : Int64)  (Z : (Nat → Int64) × (Nat → Int32) × (Nat → Int64) → Prop) : Prop :=
  ((x3 = 0 → (v_ND_tenTo_0 x2 (fun r u => (v_Split_take_85 J0 I1 J1 I2 J2 x2 s0 (J1 2) r  Z)))) ∧ (¬ x3 = 0 → (v_Split_take_86 J0 I1 J1 I2 J2 x2 s0 (J1 2)  Z)))
def v_Split_take_63 (J0 : Nat → Int64) (I1 : Nat → Int32) (J1 : Nat → Int64) (I2 : Nat → Int32) (J2 : Nat → Int64) (x2 : Int32) (x3 : Int32) (s0 : Int64) (s1 : Int64)  (Z : (Nat → Int64) × (Nat → Int32) × (Nat → Int64) → Prop) : Prop :=
  (¬ s1 = 0 ∧ (v_Split_take_64 J0 I1 J1 I2 J2 x2 x3 (s0 / s1)  Z))
def v_Split_take_46 (J0 : Nat → Int64) (I1 : Nat → Int32) (J1 : Nat → Int64) (I2 : Nat → Int32) (J2 : Nat → Int64) (x2 : Int32) (s0 : Int32)  (Z : (Nat → Int64) × (Nat → Int32) × (Nat → Int64) → Prop) : Prop :=
  ((s0 = 0 → (v_ND_tenTo_0 x2 (fun r u => (v_Split_take_63 J0 I1 J1 I2 J2 x2 s0 (J1 2) r  Z)))) ∧ (¬ s0 = 0 → (v_Split_take_64 J0 I1 J1 I2 J2 x2 s0 (0 : Int64)  Z)))
def v_Split_take_0 (J0 : Nat → Int64) (I1 : Nat → Int32) (J1 : Nat → Int64) (I2 : Nat → Int32) (J2 : Nat → Int64)  (Z : (Nat → Int64) × (Nat → Int32) × (Nat → Int64) → Prop) : Prop :=
  (((I1 3) < 0 → (((-(I1 3)) ≤ (17 : Int32) → (v_Split_take_46 J0 I1 J1 I2 J2 (-(I1 3)) (0 : Int32)  Z)) ∧ (¬ (-(I1 3)) ≤ (17 : Int32) → (v_Split_take_46 J0 I1 J1 I2 J2 (-(I1 3)) (1 : Int32)  Z)))) ∧ (¬ (I1 3) < 0 → (v_Digits_take_0 I2 J2 (J1 2) (I1 3) (0 : Int32) (fun u => (v_Split_take_23 J0 I1 J1 u.1 u.2  Z)))))
def v_DateDresser_dress_35 (I0 : Nat → Int32) (J0 : Nat → Int64) (J1 : Nat → Int64) (I2 : Nat → Int32) (J2 : Nat → Int64) (I3 : Nat → Int32) (J3 : Nat → Int64) (I4 : Nat → Int32) (n5 : Nat) (f5 : Nat → Int32) (I6 : Nat → Int32) (I7 : Nat → Int32) (n8 : Nat) (f8 : Nat → Int32) (n9 : Nat) (f9 : Nat → Int32)  (NF : Nat) (Z : (Nat → Int32) × (Nat → Int64) × (Nat → Int64) × (Nat → Int32) × (Nat → Int64) × (Nat → Int32) × Nat × (Nat → Int32) → Prop) : Prop :=
  (n5 = NF ∧ Z (I0, J0, J1, I3, J3, I4, n5, f5))
def v_DateDresser_dress_28 (I0 : Nat → Int32) (J0 : Nat → Int64) (J1 : Nat → Int64) (I2 : Nat → Int32) (J2 : Nat → Int64) (I3 : Nat → Int32) (J3 : Nat → Int64) (I4 : Nat → Int32) (n5 : Nat) (f5 : Nat → Int32) (I6 : Nat → Int32) (I7 : Nat → Int32) (n8 : Nat) (f8 : Nat → Int32) (n9 : Nat) (f9 : Nat → Int32)  (NF : Nat) (Z : (Nat → Int32) × (Nat → Int64) × (Nat → Int64) × (Nat → Int32) × (Nat → Int64) × (Nat → Int32) × Nat × (Nat → Int32) → Prop) : Prop :=
  (∃ Nc, n5 ≤ Nc ∧ Nc ≤ NF ∧ (v_Look_put_0 I4 n5 f5 (35 : Int32) Nc (fun u => (v_DateDresser_dress_35 I0 J0 J1 I2 J2 I3 J3 u.1 u.2.1 u.2.2 I6 I7 n8 f8 n9 f9  NF Z))))
def v_DateDresser_dress_62 (I0 : Nat → Int32) (J0 : Nat → Int64) (J1 : Nat → Int64) (I2 : Nat → Int32) (J2 : Nat → Int64) (I3 : Nat → Int32) (J3 : Nat → Int64) (I4 : Nat → Int32) (n5 : Nat) (f5 : Nat → Int32) (I6 : Nat → Int32) (I7 : Nat → Int32) (n8 : Nat) (f8 : Nat → Int32) (n9 : Nat) (f9 : Nat → Int32)  (NF : Nat) (Z : (Nat → Int32) × (Nat → Int64) × (Nat → Int64) × (Nat → Int32) × (Nat → Int64) × (Nat → Int32) × Nat × (Nat → Int32) → Prop) : Prop :=
  (n5 = NF ∧ Z (I0, J0, J1, I3, J3, I4, n5, f5))
def v_DateDresser_dress_164 (I0 : Nat → Int32) (J0 : Nat → Int64) (J1 : Nat → Int64) (I2 : Nat → Int32) (J2 : Nat → Int64) (I3 : Nat → Int32) (J3 : Nat → Int64) (I4 : Nat → Int32) (n5 : Nat) (f5 : Nat → Int32) (I6 : Nat → Int32) (I7 : Nat → Int32) (n8 : Nat) (f8 : Nat → Int32) (n9 : Nat) (f9 : Nat → Int32) (x6 : Int32) (k78 : (Nat → Int32) → Nat → (Nat → Int32) → Int32 → Prop) (NF : Nat) (Z : (Nat → Int32) × (Nat → Int64) × (Nat → Int64) × (Nat → Int32) × (Nat → Int64) × (Nat → Int32) × Nat × (Nat → Int32) → Prop) : Prop :=
  (k78 I4 n5 f5 (x6 + (1 : Int32)))
def v_DateDresser_dress_112 (I0 : Nat → Int32) (J0 : Nat → Int64) (J1 : Nat → Int64) (I2 : Nat → Int32) (J2 : Nat → Int64) (I3 : Nat → Int32) (J3 : Nat → Int64) (I4 : Nat → Int32) (n5 : Nat) (f5 : Nat → Int32) (I6 : Nat → Int32) (I7 : Nat → Int32) (n8 : Nat) (f8 : Nat → Int32) (n9 : Nat) (f9 : Nat → Int32) (x6 : Int32) (k78 : (Nat → Int32) → Nat → (Nat → Int32) → Int32 → Prop) (NF : Nat) (Z : (Nat → Int32) × (Nat → Int64) × (Nat → Int64) × (Nat → Int32) × (Nat → Int64) × (Nat → Int32) × Nat × (Nat → Int32) → Prop) : Prop :=
  (v_DateDresser_dress_164 I0 J0 J1 I2 J2 I3 J3 I4 n5 f5 I6 I7 n8 f8 n9 f9 x6 k78 NF Z)
def v_DateDresser_dress_109 (I0 : Nat → Int32) (J0 : Nat → Int64) (J1 : Nat → Int64) (I2 : Nat → Int32) (J2 : Nat → Int64) (I3 : Nat → Int32) (J3 : Nat → Int64) (I4 : Nat → Int32) (n5 : Nat) (f5 : Nat → Int32) (I6 : Nat → Int32) (I7 : Nat → Int32) (n8 : Nat) (f8 : Nat → Int32) (n9 : Nat) (f9 : Nat → Int32) (x6 : Int32) (s1 : Int32) (k78 : (Nat → Int32) → Nat → (Nat → Int32) → Int32 → Prop) (NF : Nat) (Z : (Nat → Int32) × (Nat → Int64) × (Nat → Int64) × (Nat → Int32) × (Nat → Int64) × (Nat → Int32) × Nat × (Nat → Int32) → Prop) : Prop :=
  (∃ Nc, n5 ≤ Nc ∧ Nc ≤ NF ∧ (v_Look_put_0 I4 n5 f5 s1 Nc (fun u => (v_DateDresser_dress_112 I0 J0 J1 I2 J2 I3 J3 u.1 u.2.1 u.2.2 I6 I7 n8 f8 n9 f9 x6 k78 NF Z))))
def v_DateDresser_dress_140 (I0 : Nat → Int32) (J0 : Nat → Int64) (J1 : Nat → Int64) (I2 : Nat → Int32) (J2 : Nat → Int64) (I3 : Nat → Int32) (J3 : Nat → Int64) (I4 : Nat → Int32) (n5 : Nat) (f5 : Nat → Int32) (I6 : Nat → Int32) (I7 : Nat → Int32) (n8 : Nat) (f8 : Nat → Int32) (n9 : Nat) (f9 : Nat → Int32) (x6 : Int32) (k78 : (Nat → Int32) → Nat → (Nat → Int32) → Int32 → Prop) (NF : Nat) (Z : (Nat → Int32) × (Nat → Int64) × (Nat → Int64) × (Nat → Int32) × (Nat → Int64) × (Nat → Int32) × Nat × (Nat → Int32) → Prop) : Prop :=
  (v_DateDresser_dress_164 I0 J0 J1 I2 J2 I3 J3 I4 n5 f5 I6 I7 n8 f8 n9 f9 x6 k78 NF Z)
def v_DateDresser_dress_131 (I0 : Nat → Int32) (J0 : Nat → Int64) (J1 : Nat → Int64) (I2 : Nat → Int32) (J2 : Nat → Int64) (I3 : Nat → Int32) (J3 : Nat → Int64) (I4 : Nat → Int32) (n5 : Nat) (f5 : Nat → Int32) (I6 : Nat → Int32) (I7 : Nat → Int32) (n8 : Nat) (f8 : Nat → Int32) (n9 : Nat) (f9 : Nat → Int32) (x6 : Int32) (s1 : Int32) (s2 : Int32) (k78 : (Nat → Int32) → Nat → (Nat → Int32) → Int32 → Prop) (NF : Nat) (Z : (Nat → Int32) × (Nat → Int64) × (Nat → Int64) × (Nat → Int32) × (Nat → Int64) × (Nat → Int32) × Nat × (Nat → Int32) → Prop) : Prop :=
  (∃ Nc, n5 ≤ Nc ∧ Nc ≤ NF ∧ (v_DateDresser_putTime_0 I0 J0 I4 n5 f5 s1 s2 (I6 14) Nc (fun u => (v_DateDresser_dress_140 I0 J0 J1 I2 J2 I3 J3 u.1 u.2.1 u.2.2 I6 I7 n8 f8 n9 f9 x6 k78 NF Z))))
def v_DateDresser_dress_159 (I0 : Nat → Int32) (J0 : Nat → Int64) (J1 : Nat → Int64) (I2 : Nat → Int32) (J2 : Nat → Int64) (I3 : Nat → Int32) (J3 : Nat → Int64) (I4 : Nat → Int32) (n5 : Nat) (f5 : Nat → Int32) (I6 : Nat → Int32) (I7 : Nat → Int32) (n8 : Nat) (f8 : Nat → Int32) (n9 : Nat) (f9 : Nat → Int32) (x6 : Int32) (s1 : Int32) (s2 : Int32) (k78 : (Nat → Int32) → Nat → (Nat → Int32) → Int32 → Prop) (NF : Nat) (Z : (Nat → Int32) × (Nat → Int64) × (Nat → Int64) × (Nat → Int32) × (Nat → Int64) × (Nat → Int32) × Nat × (Nat → Int32) → Prop) : Prop :=
  (∃ Nc, n5 ≤ Nc ∧ Nc ≤ NF ∧ (v_DateDresser_putDay_0 I0 J0 I4 n5 f5 s1 s2 Nc (fun u => (v_DateDresser_dress_164 I0 J0 J1 I2 J2 I3 J3 u.1 u.2.1 u.2.2 I6 I7 n8 f8 n9 f9 x6 k78 NF Z))))
def v_DateDresser_dress_93 (I0 : Nat → Int32) (J0 : Nat → Int64) (J1 : Nat → Int64) (I2 : Nat → Int32) (J2 : Nat → Int64) (I3 : Nat → Int32) (J3 : Nat → Int64) (I4 : Nat → Int32) (n5 : Nat) (f5 : Nat → Int32) (I6 : Nat → Int32) (I7 : Nat → Int32) (n8 : Nat) (f8 : Nat → Int32) (n9 : Nat) (f9 : Nat → Int32) (x6 : Int32) (s0 : Int32) (k78 : (Nat → Int32) → Nat → (Nat → Int32) → Int32 → Prop) (NF : Nat) (Z : (Nat → Int32) × (Nat → Int64) × (Nat → Int64) × (Nat → Int32) × (Nat → Int64) × (Nat → Int32) × Nat × (Nat → Int32) → Prop) : Prop :=
  ((¬ s0 = (1 : Int32) → ((s0 < (23 : Int32) → ((s0 < (20 : Int32) → (v_DateDresser_dress_164 I0 J0 J1 I2 J2 I3 J3 I4 n5 f5 I6 I7 n8 f8 n9 f9 x6 k78 NF Z)) ∧ (¬ s0 < (20 : Int32) → (v_Code_mark_0 I7 n9 f9 x6 (fun r u => (v_DateDresser_dress_159 I0 J0 J1 I2 J2 I3 J3 I4 n5 f5 I6 I7 n8 f8 n9 f9 x6 s0 r k78 NF Z)))))) ∧ (¬ s0 < (23 : Int32) → (v_Code_mark_0 I7 n9 f9 x6 (fun r u => (v_DateDresser_dress_131 I0 J0 J1 I2 J2 I3 J3 I4 n5 f5 I6 I7 n8 f8 n9 f9 x6 s0 r k78 NF Z)))))) ∧ (s0 = (1 : Int32) → (v_Code_mark_0 I7 n9 f9 x6 (fun r u => (v_DateDresser_dress_109 I0 J0 J1 I2 J2 I3 J3 I4 n5 f5 I6 I7 n8 f8 n9 f9 x6 r k78 NF Z)))))
def v_DateDresser_dress_78 (I0 : Nat → Int32) (J0 : Nat → Int64) (J1 : Nat → Int64) (I2 : Nat → Int32) (J2 : Nat → Int64) (I3 : Nat → Int32) (J3 : Nat → Int64) (I6 : Nat → Int32) (I7 : Nat → Int32) (n8 : Nat) (f8 : Nat → Int32) (n9 : Nat) (f9 : Nat → Int32)  (NF : Nat) (Z : (Nat → Int32) × (Nat → Int64) × (Nat → Int64) × (Nat → Int32) × (Nat → Int64) × (Nat → Int32) × Nat × (Nat → Int32) → Prop) : Nat → (Nat → Int32) → Nat → (Nat → Int32) → Int32 → Prop
  | 0 => fun _ _ _ _ => False
  | N + 1 => fun I4 n5 f5 x6 => (((I6 2) ≤ x6 → (n5 = NF ∧ Z (I0, J0, J1, I3, J3, I4, n5, f5))) ∧ (¬ (I6 2) ≤ x6 → (v_Code_kind_0 I7 n8 f8 x6 (fun r u => (v_DateDresser_dress_93 I0 J0 J1 I2 J2 I3 J3 I4 n5 f5 I6 I7 n8 f8 n9 f9 x6 r (v_DateDresser_dress_78 I0 J0 J1 I2 J2 I3 J3 I6 I7 n8 f8 n9 f9  NF Z N) NF Z)))))
def v_DateDresser_dress_72 (I0 : Nat → Int32) (J0 : Nat → Int64) (J1 : Nat → Int64) (I2 : Nat → Int32) (J2 : Nat → Int64) (I3 : Nat → Int32) (J3 : Nat → Int64) (I4 : Nat → Int32) (n5 : Nat) (f5 : Nat → Int32) (I6 : Nat → Int32) (I7 : Nat → Int32) (n8 : Nat) (f8 : Nat → Int32) (n9 : Nat) (f9 : Nat → Int32)  (NF : Nat) (Z : (Nat → Int32) × (Nat → Int64) × (Nat → Int64) × (Nat → Int32) × (Nat → Int64) × (Nat → Int32) × Nat × (Nat → Int32) → Prop) : Prop :=
  (∃ Nx, v_DateDresser_dress_78 I0 J0 J1 I2 J2 I3 J3 I6 I7 n8 f8 n9 f9  NF Z Nx I4 n5 f5 (I6 1))
def v_DateDresser_dress_44 (I0 : Nat → Int32) (J0 : Nat → Int64) (J1 : Nat → Int64) (I2 : Nat → Int32) (J2 : Nat → Int64) (I3 : Nat → Int32) (J3 : Nat → Int64) (I4 : Nat → Int32) (n5 : Nat) (f5 : Nat → Int32) (I6 : Nat → Int32) (I7 : Nat → Int32) (n8 : Nat) (f8 : Nat → Int32) (n9 : Nat) (f9 : Nat → Int32)  (NF : Nat) (Z : (Nat → Int32) × (Nat → Int64) × (Nat → Int64) × (Nat → Int32) × (Nat → Int64) × (Nat → Int32) × Nat × (Nat → Int32) → Prop) : Prop :=
  (((J0 1) < (2958466 : Int64) → (v_DateDresser_takeDay_0 I0 J0 (J0 1).toInt32 (fun u => (v_DateDresser_dress_72 u J0 J1 I2 J2 I3 J3 I4 n5 f5 I6 I7 n8 f8 n9 f9  NF Z)))) ∧ (¬ (J0 1) < (2958466 : Int64) → (∃ Nc, n5 ≤ Nc ∧ Nc ≤ NF ∧ (v_Look_put_0 I4 n5 f5 (35 : Int32) Nc (fun u => (v_DateDresser_dress_62 I0 J0 J1 I2 J2 I3 J3 u.1 u.2.1 u.2.2 I6 I7 n8 f8 n9 f9  NF Z))))))
def v_DateDresser_dress_23 (I0 : Nat → Int32) (J0 : Nat → Int64) (J1 : Nat → Int64) (I2 : Nat → Int32) (J2 : Nat → Int64) (I3 : Nat → Int32) (J3 : Nat → Int64) (I4 : Nat → Int32) (n5 : Nat) (f5 : Nat → Int32) (I6 : Nat → Int32) (I7 : Nat → Int32) (n8 : Nat) (f8 : Nat → Int32) (n9 : Nat) (f9 : Nat → Int32) (s0 : Int32)  (NF : Nat) (Z : (Nat → Int32) × (Nat → Int64) × (Nat → Int64) × (Nat → Int32) × (Nat → Int64) × (Nat → Int32) × Nat × (Nat → Int32) → Prop) : Prop :=
  ((s0 ≤ (7 : Int32) → (v_DateDresser_takeTime_0 I0 J0 J1 I3 J3 (I6 13) (fun u => (v_DateDresser_dress_44 I0 u J1 I2 J2 I3 J3 I4 n5 f5 I6 I7 n8 f8 n9 f9  NF Z)))) ∧ (¬ s0 ≤ (7 : Int32) → (v_DateDresser_dress_28 I0 J0 J1 I2 J2 I3 J3 I4 n5 f5 I6 I7 n8 f8 n9 f9  NF Z)))
def v_DateDresser_dress_8 (I0 : Nat → Int32) (J0 : Nat → Int64) (J1 : Nat → Int64) (I2 : Nat → Int32) (J2 : Nat → Int64) (I3 : Nat → Int32) (J3 : Nat → Int64) (I4 : Nat → Int32) (n5 : Nat) (f5 : Nat → Int32) (I6 : Nat → Int32) (I7 : Nat → Int32) (n8 : Nat) (f8 : Nat → Int32) (n9 : Nat) (f9 : Nat → Int32) (x4 : Int32)  (NF : Nat) (Z : (Nat → Int32) × (Nat → Int64) × (Nat → Int64) × (Nat → Int32) × (Nat → Int64) × (Nat → Int32) × Nat × (Nat → Int32) → Prop) : Prop :=
  ((¬ x4 = 0 → (v_DateDresser_dress_28 I0 J0 J1 I2 J2 I3 J3 I4 n5 f5 I6 I7 n8 f8 n9 f9  NF Z)) ∧ (x4 = 0 → (v_Digits_wholes_0 I3 J3 (fun r u => (v_DateDresser_dress_23 I0 J0 J1 I2 J2 I3 J3 I4 n5 f5 I6 I7 n8 f8 n9 f9 r  NF Z)))))
def v_DateDresser_dress_0 (I0 : Nat → Int32) (J0 : Nat → Int64) (J1 : Nat → Int64) (I2 : Nat → Int32) (J2 : Nat → Int64) (I3 : Nat → Int32) (J3 : Nat → Int64) (I4 : Nat → Int32) (n5 : Nat) (f5 : Nat → Int32) (I6 : Nat → Int32) (I7 : Nat → Int32) (n8 : Nat) (f8 : Nat → Int32) (n9 : Nat) (f9 : Nat → Int32) (x4 : Int32)  (NF : Nat) (Z : (Nat → Int32) × (Nat → Int64) × (Nat → Int64) × (Nat → Int32) × (Nat → Int64) × (Nat → Int32) × Nat × (Nat → Int32) → Prop) : Prop :=
  (v_Split_take_0 J1 I2 J2 I3 J3 (fun u => (v_DateDresser_dress_8 I0 J0 u.1 I2 J2 u.2.1 u.2.2 I4 n5 f5 I6 I7 n8 f8 n9 f9 x4  NF Z)))
def v_Look_putTimes_12 (I0 : Nat → Int32) (n1 : Nat) (f1 : Nat → Int32) (x1 : Int32) (x2 : Int32) (x3 : Int32) (k2 : (Nat → Int32) → Nat → (Nat → Int32) → Int32 → Prop) (NF : Nat) (Z : (Nat → Int32) × Nat × (Nat → Int32) → Prop) : Prop :=
  (k2 I0 n1 f1 (x3 + (1 : Int32)))
def v_Look_putTimes_2 (x1 : Int32) (x2 : Int32)  (NF : Nat) (Z : (Nat → Int32) × Nat × (Nat → Int32) → Prop) : Nat → (Nat → Int32) → Nat → (Nat → Int32) → Int32 → Prop
  | 0 => fun _ _ _ _ => False
  | N + 1 => fun I0 n1 f1 x3 => ((x2 ≤ x3 → (n1 = NF ∧ Z (I0, n1, f1))) ∧ (¬ x2 ≤ x3 → (∃ Nc, n1 ≤ Nc ∧ Nc ≤ NF ∧ (v_Look_put_0 I0 n1 f1 x1 Nc (fun u => (v_Look_putTimes_12 u.1 u.2.1 u.2.2 x1 x2 x3 (v_Look_putTimes_2 x1 x2  NF Z N) NF Z))))))
def v_Look_putTimes_0 (I0 : Nat → Int32) (n1 : Nat) (f1 : Nat → Int32) (x1 : Int32) (x2 : Int32)  (NF : Nat) (Z : (Nat → Int32) × Nat × (Nat → Int32) → Prop) : Prop :=
  (∃ Nx, v_Look_putTimes_2 x1 x2  NF Z Nx I0 n1 f1 (0 : Int32))
def v_Dresser_putWithPoint_66 (I1 : Nat → Int32) (n2 : Nat) (f2 : Nat → Int32)  (NF : Nat) (Z : (Nat → Int32) × Nat × (Nat → Int32) → Prop) : Prop :=
  (n2 = NF ∧ Z (I1, n2, f2))
def v_Dresser_putWithPoint_28 (I1 : Nat → Int32) (n2 : Nat) (f2 : Nat → Int32)  (NF : Nat) (Z : (Nat → Int32) × Nat × (Nat → Int32) → Prop) : Prop :=
  (v_Dresser_putWithPoint_66 I1 n2 f2  NF Z)
def v_Dresser_putWithPoint_18 (I1 : Nat → Int32) (n2 : Nat) (f2 : Nat → Int32) (x6 : Int32)  (NF : Nat) (Z : (Nat → Int32) × Nat × (Nat → Int32) → Prop) : Prop :=
  (∃ Nc, n2 ≤ Nc ∧ Nc ≤ NF ∧ (v_Look_putTimes_0 I1 n2 f2 (48 : Int32) (-x6) Nc (fun u => (v_Dresser_putWithPoint_28 u.1 u.2.1 u.2.2  NF Z))))
def v_Dresser_putWithPoint_55 (I1 : Nat → Int32) (n2 : Nat) (f2 : Nat → Int32) (x1 : Int64) (x6 : Int32) (x7 : Int64)  (NF : Nat) (Z : (Nat → Int32) × Nat × (Nat → Int32) → Prop) : Prop :=
  (¬ x7 = 0 ∧ (∃ Nc, n2 ≤ Nc ∧ Nc ≤ NF ∧ (v_Look_putNumber_0 I1 n2 f2 (x1 - x1 / x7 * x7) x6 Nc (fun u => (v_Dresser_putWithPoint_66 u.1 u.2.1 u.2.2  NF Z)))))
def v_Dresser_putWithPoint_48 (I1 : Nat → Int32) (n2 : Nat) (f2 : Nat → Int32) (x1 : Int64) (x6 : Int32) (x7 : Int64)  (NF : Nat) (Z : (Nat → Int32) × Nat × (Nat → Int32) → Prop) : Prop :=
  (∃ Nc, n2 ≤ Nc ∧ Nc ≤ NF ∧ (v_Look_put_0 I1 n2 f2 (46 : Int32) Nc (fun u => (v_Dresser_putWithPoint_55 u.1 u.2.1 u.2.2 x1 x6 x7  NF Z))))
def v_Dresser_putWithPoint_36 (I1 : Nat → Int32) (n2 : Nat) (f2 : Nat → Int32) (x1 : Int64) (x6 : Int32) (s0 : Int64)  (NF : Nat) (Z : (Nat → Int32) × Nat × (Nat → Int32) → Prop) : Prop :=
  (¬ s0 = 0 ∧ (∃ Nc, n2 ≤ Nc ∧ Nc ≤ NF ∧ (v_Look_putNumber_0 I1 n2 f2 (x1 / s0) (1 : Int32) Nc (fun u => (v_Dresser_putWithPoint_48 u.1 u.2.1 u.2.2 x1 x6 s0  NF Z)))))
def v_Dresser_putWithPoint_0 (I1 : Nat → Int32) (n2 : Nat) (f2 : Nat → Int32) (x1 : Int64) (x3 : Int32) (x4 : Int32)  (NF : Nat) (Z : (Nat → Int32) × Nat × (Nat → Int32) → Prop) : Prop :=
  ((0 < (x3 - x4) → (v_ND_tenTo_0 (x3 - x4) (fun r u => (v_Dresser_putWithPoint_36 I1 n2 f2 x1 (x3 - x4) r  NF Z)))) ∧ (¬ 0 < (x3 - x4) → (∃ Nc, n2 ≤ Nc ∧ Nc ≤ NF ∧ (v_Look_putNumber_0 I1 n2 f2 x1 (1 : Int32) Nc (fun u => (v_Dresser_putWithPoint_18 u.1 u.2.1 u.2.2 (x3 - x4)  NF Z))))))
def v_Dresser_putWithPower_40 (I1 : Nat → Int32) (n2 : Nat) (f2 : Nat → Int32)  (NF : Nat) (Z : (Nat → Int32) × Nat × (Nat → Int32) → Prop) : Prop :=
  (n2 = NF ∧ Z (I1, n2, f2))
def v_Dresser_putWithPower_28 (I1 : Nat → Int32) (n2 : Nat) (f2 : Nat → Int32) (x4 : Int32)  (NF : Nat) (Z : (Nat → Int32) × Nat × (Nat → Int32) → Prop) : Prop :=
  (∃ Nc, n2 ≤ Nc ∧ Nc ≤ NF ∧ (v_Look_putNumber_0 I1 n2 f2 (zabs x4).toInt64 (1 : Int32) Nc (fun u => (v_Dresser_putWithPower_40 u.1 u.2.1 u.2.2  NF Z))))
def v_Dresser_putWithPower_16 (I1 : Nat → Int32) (n2 : Nat) (f2 : Nat → Int32) (x4 : Int32)  (NF : Nat) (Z : (Nat → Int32) × Nat × (Nat → Int32) → Prop) : Prop :=
  ((0 ≤ x4 → (v_Dresser_putWithPower_28 I1 n2 f2 x4  NF Z)) ∧ (¬ 0 ≤ x4 → (∃ Nc, n2 ≤ Nc ∧ Nc ≤ NF ∧ (v_Look_put_0 I1 n2 f2 (45 : Int32) Nc (fun u => (v_Dresser_putWithPower_28 u.1 u.2.1 u.2.2 x4  NF Z))))))
def v_Dresser_putWithPower_9 (I1 : Nat → Int32) (n2 : Nat) (f2 : Nat → Int32) (x4 : Int32)  (NF : Nat) (Z : (Nat → Int32) × Nat × (Nat → Int32) → Prop) : Prop :=
  (∃ Nc, n2 ≤ Nc ∧ Nc ≤ NF ∧ (v_Look_put_0 I1 n2 f2 (69 : Int32) Nc (fun u => (v_Dresser_putWithPower_16 u.1 u.2.1 u.2.2 x4  NF Z))))
def v_Dresser_putWithPower_0 (I1 : Nat → Int32) (n2 : Nat) (f2 : Nat → Int32) (x1 : Int64) (x3 : Int32) (x4 : Int32)  (NF : Nat) (Z : (Nat → Int32) × Nat × (Nat → Int32) → Prop) : Prop :=
  (∃ Nc, n2 ≤ Nc ∧ Nc ≤ NF ∧ (v_Dresser_putWithPoint_0 I1 n2 f2 x1 x3 (1 : Int32) Nc (fun u => (v_Dresser_putWithPower_9 u.1 u.2.1 u.2.2 x4  NF Z))))
def v_Look_putAll_19 (I0 : Nat → Int32) (n1 : Nat) (f1 : Nat → Int32) (x1 : Nat) (x2 : Int32) (k2 : (Nat → Int32) → Nat → (Nat → Int32) → Int32 → Prop) (NF : Nat) (Z : (Nat → Int32) × Nat × (Nat → Int32) → Prop) : Prop :=
  (k2 I0 n1 f1 (x2 + (1 : Int32)))
def v_Look_putAll_16 (I0 : Nat → Int32) (n1 : Nat) (f1 : Nat → Int32) (x1 : Nat) (x2 : Int32) (s1 : Int32) (k2 : (Nat → Int32) → Nat → (Nat → Int32) → Int32 → Prop) (NF : Nat) (Z : (Nat → Int32) × Nat × (Nat → Int32) → Prop) : Prop :=
  (∃ Nc, n1 ≤ Nc ∧ Nc ≤ NF ∧ (v_Look_put_0 I0 n1 f1 s1 Nc (fun u => (v_Look_putAll_19 u.1 u.2.1 u.2.2 x1 x2 k2 NF Z))))
def v_Look_putAll_7 (I0 : Nat → Int32) (n1 : Nat) (f1 : Nat → Int32) (x1 : Nat) (x2 : Int32) (s0 : Int32) (s1 : Int32) (k2 : (Nat → Int32) → Nat → (Nat → Int32) → Int32 → Prop) (NF : Nat) (Z : (Nat → Int32) × Nat × (Nat → Int32) → Prop) : Prop :=
  ((s1 ≤ s0 → (n1 = NF ∧ Z (I0, n1, f1))) ∧ (¬ s1 ≤ s0 → (x1 < nZS ∧ (v_S_charAt_0 x1 x2 (fun r u => (v_Look_putAll_16 I0 n1 f1 x1 x2 r k2 NF Z))))))
def v_Look_putAll_2 (x1 : Nat)  (NF : Nat) (Z : (Nat → Int32) × Nat × (Nat → Int32) → Prop) : Nat → (Nat → Int32) → Nat → (Nat → Int32) → Int32 → Prop
  | 0 => fun _ _ _ _ => False
  | N + 1 => fun I0 n1 f1 x2 => (x1 < nZS ∧ (v_S_length_0 x1 (fun r u => (v_Look_putAll_7 I0 n1 f1 x1 x2 x2 r (v_Look_putAll_2 x1  NF Z N) NF Z))))
def v_Look_putAll_0 (I0 : Nat → Int32) (n1 : Nat) (f1 : Nat → Int32) (x1 : Nat)  (NF : Nat) (Z : (Nat → Int32) × Nat × (Nat → Int32) → Prop) : Prop :=
  (∃ Nx, v_Look_putAll_2 x1  NF Z Nx I0 n1 f1 (0 : Int32))
def v_Dresser_dressGeneral_25 (I1 : Nat → Int32) (J1 : Nat → Int64) (I2 : Nat → Int32) (n3 : Nat) (f3 : Nat → Int32)  (NF : Nat) (Z : (Nat → Int32) × Nat × (Nat → Int32) → Prop) : Prop :=
  (n3 = NF ∧ Z (I2, n3, f3))
def v_Dresser_dressGeneral_161 (I1 : Nat → Int32) (J1 : Nat → Int64) (I2 : Nat → Int32) (n3 : Nat) (f3 : Nat → Int32)  (NF : Nat) (Z : (Nat → Int32) × Nat × (Nat → Int32) → Prop) : Prop :=
  (n3 = NF ∧ Z (I2, n3, f3))
def v_Dresser_dressGeneral_117 (I1 : Nat → Int32) (J1 : Nat → Int64) (I2 : Nat → Int32) (n3 : Nat) (f3 : Nat → Int32)  (NF : Nat) (Z : (Nat → Int32) × Nat × (Nat → Int32) → Prop) : Prop :=
  (v_Dresser_dressGeneral_161 I1 J1 I2 n3 f3  NF Z)
def v_Dresser_dressGeneral_104 (I1 : Nat → Int32) (J1 : Nat → Int64) (I2 : Nat → Int32) (n3 : Nat) (f3 : Nat → Int32) (x4 : Int64) (x7 : Int32) (x8 : Int32)  (NF : Nat) (Z : (Nat → Int32) × Nat × (Nat → Int32) → Prop) : Prop :=
  (∃ Nc, n3 ≤ Nc ∧ Nc ≤ NF ∧ (v_Dresser_putWithPower_0 I2 n3 f3 x4 x7 (x8 - (1 : Int32)) Nc (fun u => (v_Dresser_dressGeneral_117 I1 J1 u.1 u.2.1 u.2.2  NF Z))))
def v_Dresser_dressGeneral_147 (I1 : Nat → Int32) (J1 : Nat → Int64) (I2 : Nat → Int32) (n3 : Nat) (f3 : Nat → Int32)  (NF : Nat) (Z : (Nat → Int32) × Nat × (Nat → Int32) → Prop) : Prop :=
  (v_Dresser_dressGeneral_161 I1 J1 I2 n3 f3  NF Z)
def v_Dresser_dressGeneral_140 (I1 : Nat → Int32) (J1 : Nat → Int64) (I2 : Nat → Int32) (n3 : Nat) (f3 : Nat → Int32) (x4 : Int64)  (NF : Nat) (Z : (Nat → Int32) × Nat × (Nat → Int32) → Prop) : Prop :=
  (∃ Nc, n3 ≤ Nc ∧ Nc ≤ NF ∧ (v_Look_putNumber_0 I2 n3 f3 x4 (1 : Int32) Nc (fun u => (v_Dresser_dressGeneral_147 I1 J1 u.1 u.2.1 u.2.2  NF Z))))
def v_Dresser_dressGeneral_131 (I1 : Nat → Int32) (J1 : Nat → Int64) (I2 : Nat → Int32) (n3 : Nat) (f3 : Nat → Int32) (x4 : Int64) (x8 : Int32)  (NF : Nat) (Z : (Nat → Int32) × Nat × (Nat → Int32) → Prop) : Prop :=
  (∃ Nc, n3 ≤ Nc ∧ Nc ≤ NF ∧ (v_Look_putTimes_0 I2 n3 f3 (48 : Int32) (-x8) Nc (fun u => (v_Dresser_dressGeneral_140 I1 J1 u.1 u.2.1 u.2.2 x4  NF Z))))
def v_Dresser_dressGeneral_81 (I1 : Nat → Int32) (J1 : Nat → Int64) (I2 : Nat → Int32) (n3 : Nat) (f3 : Nat → Int32) (x4 : Int64) (x6 : Int32) (s0 : Int32)  (NF : Nat) (Z : (Nat → Int32) × Nat × (Nat → Int32) → Prop) : Prop :=
  (((s0 + x6) < (-5 : Int32) → (v_Dresser_dressGeneral_104 I1 J1 I2 n3 f3 x4 s0 (s0 + x6)  NF Z)) ∧ (¬ (s0 + x6) < (-5 : Int32) → (((s0 + x6) ≤ (21 : Int32) → ((0 < (s0 + x6) → (∃ Nc, n3 ≤ Nc ∧ Nc ≤ NF ∧ (v_Dresser_putWithPoint_0 I2 n3 f3 x4 s0 (s0 + x6) Nc (fun u => (v_Dresser_dressGeneral_161 I1 J1 u.1 u.2.1 u.2.2  NF Z))))) ∧ (¬ 0 < (s0 + x6) → (∃ Nc, n3 ≤ Nc ∧ Nc ≤ NF ∧ (v_Look_putAll_0 I2 n3 f3 12 Nc (fun u => (v_Dresser_dressGeneral_131 I1 J1 u.1 u.2.1 u.2.2 x4 (s0 + x6)  NF Z))))))) ∧ (¬ (s0 + x6) ≤ (21 : Int32) → (v_Dresser_dressGeneral_104 I1 J1 I2 n3 f3 x4 s0 (s0 + x6)  NF Z)))))
def v_Dresser_dressGeneral_76 (I1 : Nat → Int32) (J1 : Nat → Int64) (I2 : Nat → Int32) (n3 : Nat) (f3 : Nat → Int32) (x4 : Int64) (x6 : Int32)  (NF : Nat) (Z : (Nat → Int32) × Nat × (Nat → Int32) → Prop) : Prop :=
  (v_ND_digitsOf_0 x4 (fun r u => (v_Dresser_dressGeneral_81 I1 J1 I2 n3 f3 x4 x6 r  NF Z)))
def v_Dresser_dressGeneral_66 (I1 : Nat → Int32) (J1 : Nat → Int64) (I2 : Nat → Int32) (n3 : Nat) (f3 : Nat → Int32) (x2 : Int32) (x4 : Int64) (x6 : Int32)  (NF : Nat) (Z : (Nat → Int32) × Nat × (Nat → Int32) → Prop) : Prop :=
  ((x2 = 0 → (v_Dresser_dressGeneral_76 I1 J1 I2 n3 f3 x4 x6  NF Z)) ∧ (¬ x2 = 0 → (∃ Nc, n3 ≤ Nc ∧ Nc ≤ NF ∧ (v_Look_put_0 I2 n3 f3 (45 : Int32) Nc (fun u => (v_Dresser_dressGeneral_76 I1 J1 u.1 u.2.1 u.2.2 x4 x6  NF Z))))))
def v_Dresser_dressGeneral_29 (I1 : Nat → Int32) (J1 : Nat → Int64) (I2 : Nat → Int32) (n3 : Nat) (f3 : Nat → Int32) (x2 : Int32)  (NF : Nat) (Z : (Nat → Int32) × Nat × (Nat → Int32) → Prop) : Nat → Int64 → Int32 → Int32 → Prop
  | 0 => fun _ _ _ => False
  | N + 1 => fun x4 x6 x7 => (((19 : Int32) ≤ x7 → (v_Dresser_dressGeneral_66 I1 J1 I2 n3 f3 x2 x4 x6  NF Z)) ∧ (¬ (19 : Int32) ≤ x7 → ((¬ (x4 - x4 / (10 : Int64) * (10 : Int64)) = (0 : Int64) → (v_Dresser_dressGeneral_66 I1 J1 I2 n3 f3 x2 x4 x6  NF Z)) ∧ ((x4 - x4 / (10 : Int64) * (10 : Int64)) = (0 : Int64) → ((v_Dresser_dressGeneral_29 I1 J1 I2 n3 f3 x2  NF Z N) (x4 / (10 : Int64)) (x6 + (1 : Int32)) (x7 + (1 : Int32)))))))
def v_Dresser_dressGeneral_0 (I1 : Nat → Int32) (J1 : Nat → Int64) (I2 : Nat → Int32) (n3 : Nat) (f3 : Nat → Int32) (x2 : Int32)  (NF : Nat) (Z : (Nat → Int32) × Nat × (Nat → Int32) → Prop) : Prop :=
  ((¬ (J1 2) = (0 : Int64) → (∃ Nx, v_Dresser_dressGeneral_29 I1 J1 I2 n3 f3 x2  NF Z Nx (J1 2) (I1 3) (0 : Int32))) ∧ ((J1 2) = (0 : Int64) → (∃ Nc, n3 ≤ Nc ∧ Nc ≤ NF ∧ (v_Look_put_0 I2 n3 f3 (48 : Int32) Nc (fun u => (v_Dresser_dressGeneral_25 I1 J1 u.1 u.2.1 u.2.2  NF Z))))))
def v_Dresser_putText_29 (I1 : Nat → Int32) (J1 : Nat → Int64) (n2 : Nat) (f2 : Nat → Int32) (I3 : Nat → Int32) (n4 : Nat) (f4 : Nat → Int32) (x3 : Int32) (k2 : (Nat → Int32) → Nat → (Nat → Int32) → Int32 → Prop) (NF : Nat) (Z : (Nat → Int32) × Nat × (Nat → Int32) → Prop) : Prop :=
  (k2 I3 n4 f4 (x3 + (1 : Int32)))
def v_Dresser_putText_2 (I1 : Nat → Int32) (J1 : Nat → Int64) (n2 : Nat) (f2 : Nat → Int32)  (NF : Nat) (Z : (Nat → Int32) × Nat × (Nat → Int32) → Prop) : Nat → (Nat → Int32) → Nat → (Nat → Int32) → Int32 → Prop
  | 0 => fun _ _ _ _ => False
  | N + 1 => fun I3 n4 f4 x3 => (((I1 5) ≤ x3 → (n4 = NF ∧ Z (I3, n4, f4))) ∧ (¬ (I1 5) ≤ x3 → (((nI n2) ≤ x3 → (n4 = NF ∧ Z (I3, n4, f4))) ∧ (¬ (nI n2) ≤ x3 → (vp_in x3 n2 ∧ (∃ Nc, n4 ≤ Nc ∧ Nc ≤ NF ∧ (v_Look_put_0 I3 n4 f4 (f2 x3.toNatClampNeg) Nc (fun u => (v_Dresser_putText_29 I1 J1 n2 f2 u.1 u.2.1 u.2.2 x3 (v_Dresser_putText_2 I1 J1 n2 f2  NF Z N) NF Z)))))))))
def v_Dresser_putText_0 (I1 : Nat → Int32) (J1 : Nat → Int64) (n2 : Nat) (f2 : Nat → Int32) (I3 : Nat → Int32) (n4 : Nat) (f4 : Nat → Int32)  (NF : Nat) (Z : (Nat → Int32) × Nat × (Nat → Int32) → Prop) : Prop :=
  (∃ Nx, v_Dresser_putText_2 I1 J1 n2 f2  NF Z Nx I3 n4 f4 (0 : Int32))
def v_Dresser_dressWords_57 (I1 : Nat → Int32) (I2 : Nat → Int32) (n3 : Nat) (f3 : Nat → Int32) (I4 : Nat → Int32) (J4 : Nat → Int64) (n5 : Nat) (f5 : Nat → Int32) (I6 : Nat → Int32) (n7 : Nat) (f7 : Nat → Int32) (n8 : Nat) (f8 : Nat → Int32) (x5 : Int32) (k6 : (Nat → Int32) → Nat → (Nat → Int32) → Int32 → Prop) (NF : Nat) (Z : (Nat → Int32) × Nat × (Nat → Int32) → Prop) : Prop :=
  (k6 I6 n7 f7 (x5 + (1 : Int32)))
def v_Dresser_dressWords_40 (I1 : Nat → Int32) (I2 : Nat → Int32) (n3 : Nat) (f3 : Nat → Int32) (I4 : Nat → Int32) (J4 : Nat → Int64) (n5 : Nat) (f5 : Nat → Int32) (I6 : Nat → Int32) (n7 : Nat) (f7 : Nat → Int32) (n8 : Nat) (f8 : Nat → Int32) (x5 : Int32) (k6 : (Nat → Int32) → Nat → (Nat → Int32) → Int32 → Prop) (NF : Nat) (Z : (Nat → Int32) × Nat × (Nat → Int32) → Prop) : Prop :=
  (v_Dresser_dressWords_57 I1 I2 n3 f3 I4 J4 n5 f5 I6 n7 f7 n8 f8 x5 k6 NF Z)
def v_Dresser_dressWords_37 (I1 : Nat → Int32) (I2 : Nat → Int32) (n3 : Nat) (f3 : Nat → Int32) (I4 : Nat → Int32) (J4 : Nat → Int64) (n5 : Nat) (f5 : Nat → Int32) (I6 : Nat → Int32) (n7 : Nat) (f7 : Nat → Int32) (n8 : Nat) (f8 : Nat → Int32) (x5 : Int32) (s1 : Int32) (k6 : (Nat → Int32) → Nat → (Nat → Int32) → Int32 → Prop) (NF : Nat) (Z : (Nat → Int32) × Nat × (Nat → Int32) → Prop) : Prop :=
  (∃ Nc, n7 ≤ Nc ∧ Nc ≤ NF ∧ (v_Look_put_0 I6 n7 f7 s1 Nc (fun u => (v_Dresser_dressWords_40 I1 I2 n3 f3 I4 J4 n5 f5 u.1 u.2.1 u.2.2 n8 f8 x5 k6 NF Z))))
def v_Dresser_dressWords_21 (I1 : Nat → Int32) (I2 : Nat → Int32) (n3 : Nat) (f3 : Nat → Int32) (I4 : Nat → Int32) (J4 : Nat → Int64) (n5 : Nat) (f5 : Nat → Int32) (I6 : Nat → Int32) (n7 : Nat) (f7 : Nat → Int32) (n8 : Nat) (f8 : Nat → Int32) (x5 : Int32) (s0 : Int32) (k6 : (Nat → Int32) → Nat → (Nat → Int32) → Int32 → Prop) (NF : Nat) (Z : (Nat → Int32) × Nat × (Nat → Int32) → Prop) : Prop :=
  ((¬ s0 = (1 : Int32) → ((¬ s0 = (13 : Int32) → (v_Dresser_dressWords_57 I1 I2 n3 f3 I4 J4 n5 f5 I6 n7 f7 n8 f8 x5 k6 NF Z)) ∧ (s0 = (13 : Int32) → (∃ Nc, n7 ≤ Nc ∧ Nc ≤ NF ∧ (v_Dresser_putText_0 I4 J4 n5 f5 I6 n7 f7 Nc (fun u => (v_Dresser_dressWords_57 I1 I2 n3 f3 I4 J4 n5 f5 u.1 u.2.1 u.2.2 n8 f8 x5 k6 NF Z))))))) ∧ (s0 = (1 : Int32) → (v_Code_mark_0 I2 n8 f8 x5 (fun r u => (v_Dresser_dressWords_37 I1 I2 n3 f3 I4 J4 n5 f5 I6 n7 f7 n8 f8 x5 r k6 NF Z)))))
def v_Dresser_dressWords_6 (I1 : Nat → Int32) (I2 : Nat → Int32) (n3 : Nat) (f3 : Nat → Int32) (I4 : Nat → Int32) (J4 : Nat → Int64) (n5 : Nat) (f5 : Nat → Int32) (n8 : Nat) (f8 : Nat → Int32)  (NF : Nat) (Z : (Nat → Int32) × Nat × (Nat → Int32) → Prop) : Nat → (Nat → Int32) → Nat → (Nat → Int32) → Int32 → Prop
  | 0 => fun _ _ _ _ => False
  | N + 1 => fun I6 n7 f7 x5 => (((I1 2) ≤ x5 → (n7 = NF ∧ Z (I6, n7, f7))) ∧ (¬ (I1 2) ≤ x5 → (v_Code_kind_0 I2 n3 f3 x5 (fun r u => (v_Dresser_dressWords_21 I1 I2 n3 f3 I4 J4 n5 f5 I6 n7 f7 n8 f8 x5 r (v_Dresser_dressWords_6 I1 I2 n3 f3 I4 J4 n5 f5 n8 f8  NF Z N) NF Z)))))
def v_Dresser_dressWords_0 (I1 : Nat → Int32) (I2 : Nat → Int32) (n3 : Nat) (f3 : Nat → Int32) (I4 : Nat → Int32) (J4 : Nat → Int64) (n5 : Nat) (f5 : Nat → Int32) (I6 : Nat → Int32) (n7 : Nat) (f7 : Nat → Int32) (n8 : Nat) (f8 : Nat → Int32)  (NF : Nat) (Z : (Nat → Int32) × Nat × (Nat → Int32) → Prop) : Prop :=
  (∃ Nx, v_Dresser_dressWords_6 I1 I2 n3 f3 I4 J4 n5 f5 n8 f8  NF Z Nx I6 n7 f7 (I1 1))
def v_Digits_isZero_0 (I0 : Nat → Int32) (J0 : Nat → Int64)  (Z : Int32 → Unit → Prop) : Prop :=
  ((¬ (I0 2) = 0 → (Z (0 : Int32) ())) ∧ ((I0 2) = 0 → (Z (1 : Int32) ())))
def v_FractionDresser_tryUnder_97 (J0 : Nat → Int64) (J1 : Nat → Int64) (x1 : Int64) (x11 : Int64) (x13 : Int64)  (Z : (Nat → Int64) → Prop) : Prop :=
  (Z ((zul (zul (zul J0 2 x11) 3 x1) 4 x13)))
def v_FractionDresser_tryUnder_69 (J0 : Nat → Int64) (J1 : Nat → Int64) (x1 : Int64) (x11 : Int64) (s0 : Int64)  (Z : (Nat → Int64) → Prop) : Prop :=
  (((J0 3) = (0 : Int64) → (v_FractionDresser_tryUnder_97 J0 J1 x1 x11 s0  Z)) ∧ (¬ (J0 3) = (0 : Int64) → ((((J0 4) * x1) ≤ (s0 * (J0 3)) → (Z (J0))) ∧ (¬ ((J0 4) * x1) ≤ (s0 * (J0 3)) → (v_FractionDresser_tryUnder_97 J0 J1 x1 x11 s0  Z)))))
def v_FractionDresser_tryUnder_52 (J0 : Nat → Int64) (J1 : Nat → Int64) (x1 : Int64) (x7 : Int64) (x9 : Int64) (s0 : Int64)  (Z : (Nat → Int64) → Prop) : Prop :=
  ((x9 < x7 → (v_FractionDresser_tryUnder_69 J0 J1 x1 s0 x9  Z)) ∧ (¬ x9 < x7 → (v_FractionDresser_tryUnder_69 J0 J1 x1 s0 x7  Z)))
def v_FractionDresser_tryUnder_0 (J0 : Nat → Int64) (J1 : Nat → Int64) (x1 : Int64)  (Z : (Nat → Int64) → Prop) : Prop :=
  (∀ y_1 : Int64, y_1 = (((J1 1) * x1) / (1000000000000000 : Int64)) → (∀ y_2 : Int64, y_2 = (((J1 1) * x1) - (y_1 * (1000000000000000 : Int64))) → ((((1000000000000000 : Int64) - y_2) < y_2 → (v_FractionDresser_tryUnder_52 J0 J1 x1 y_2 ((1000000000000000 : Int64) - y_2) (y_1 + (1 : Int64))  Z)) ∧ (¬ ((1000000000000000 : Int64) - y_2) < y_2 → (v_FractionDresser_tryUnder_52 J0 J1 x1 y_2 ((1000000000000000 : Int64) - y_2) y_1  Z)))))
def v_FractionDresser_findNearest_31 (J0 : Nat → Int64) (I1 : Nat → Int32) (J2 : Nat → Int64)  (Z : (Nat → Int64) → Prop) : Prop :=
  (Z (J0))
def v_FractionDresser_findNearest_67 (J0 : Nat → Int64) (I1 : Nat → Int32) (J2 : Nat → Int64) (x2 : Int64) (x4 : Int64) (k45 : (Nat → Int64) → Int64 → Prop) (Z : (Nat → Int64) → Prop) : Prop :=
  (k45 J0 (x4 + (1 : Int64)))
def v_FractionDresser_findNearest_76 (J0 : Nat → Int64) (I1 : Nat → Int32) (J2 : Nat → Int64)  (Z : (Nat → Int64) → Prop) : Prop :=
  ((¬ (J0 3) = (0 : Int64) → (Z (J0))) ∧ ((J0 3) = (0 : Int64) → (Z ((zul J0 3 (1 : Int64))))))
def v_FractionDresser_findNearest_45 (I1 : Nat → Int32) (J2 : Nat → Int64) (x2 : Int64)  (Z : (Nat → Int64) → Prop) : Nat → (Nat → Int64) → Int64 → Prop
  | 0 => fun _ _ => False
  | N + 1 => fun J0 x4 => ((x2 < x4 → (v_FractionDresser_findNearest_76 J0 I1 J2  Z)) ∧ (¬ x2 < x4 → (((999 : Int64) < x4 → (v_FractionDresser_findNearest_76 J0 I1 J2  Z)) ∧ (¬ (999 : Int64) < x4 → (v_FractionDresser_tryUnder_0 J0 J2 x4 (fun u => (v_FractionDresser_findNearest_67 u I1 J2 x2 x4 (v_FractionDresser_findNearest_45 I1 J2 x2  Z N) Z)))))))
def v_FractionDresser_findNearest_39 (J0 : Nat → Int64) (I1 : Nat → Int32) (J2 : Nat → Int64) (s0 : Int64)  (Z : (Nat → Int64) → Prop) : Prop :=
  (∃ Nx, v_FractionDresser_findNearest_45 I1 J2 (s0 - (1 : Int64))  Z Nx J0 (1 : Int64))
def v_FractionDresser_findNearest_0 (J0 : Nat → Int64) (I1 : Nat → Int32) (J2 : Nat → Int64)  (Z : (Nat → Int64) → Prop) : Prop :=
  (((I1 12) ≤ 0 → (v_ND_tenTo_0 (I1 11) (fun r u => (v_FractionDresser_findNearest_39 (zul (zul (zul J0 2 (0 : Int64)) 3 (0 : Int64)) 4 (0 : Int64)) I1 J2 r  Z)))) ∧ (¬ (I1 12) ≤ 0 → (v_FractionDresser_tryUnder_0 (zul (zul (zul J0 2 (0 : Int64)) 3 (0 : Int64)) 4 (0 : Int64)) J2 (I1 12).toInt64 (fun u => (v_FractionDresser_findNearest_31 u I1 J2  Z)))))
def v_FractionDresser_isOfFraction_0 (x0 : Int32)  (Z : Int32 → Unit → Prop) : Prop :=
  ((x0 = (9 : Int32) → (Z (1 : Int32) ())) ∧ (¬ x0 = (9 : Int32) → ((x0 = (10 : Int32) → (Z (1 : Int32) ())) ∧ (¬ x0 = (10 : Int32) → ((x0 = (11 : Int32) → (Z (1 : Int32) ())) ∧ (¬ x0 = (11 : Int32) → ((¬ x0 = (12 : Int32) → (Z (0 : Int32) ())) ∧ (x0 = (12 : Int32) → (Z (1 : Int32) ())))))))))
def v_FractionDresser_putLacking_41 (J0 : Nat → Int64) (I1 : Nat → Int32) (n2 : Nat) (f2 : Nat → Int32) (I3 : Nat → Int32) (n4 : Nat) (f4 : Nat → Int32) (x2 : Int32) (x3 : Int32) (x4 : Int32) (x6 : Int32) (k3 : (Nat → Int32) → Nat → (Nat → Int32) → Int32 → Prop) (NF : Nat) (Z : (Nat → Int32) × Nat × (Nat → Int32) → Prop) : Prop :=
  (k3 I3 n4 f4 (x6 + (1 : Int32)))
def v_FractionDresser_putLacking_38 (J0 : Nat → Int64) (I1 : Nat → Int32) (n2 : Nat) (f2 : Nat → Int32) (I3 : Nat → Int32) (n4 : Nat) (f4 : Nat → Int32) (x2 : Int32) (x3 : Int32) (x4 : Int32) (x6 : Int32) (s1 : Int32) (k3 : (Nat → Int32) → Nat → (Nat → Int32) → Int32 → Prop) (NF : Nat) (Z : (Nat → Int32) × Nat × (Nat → Int32) → Prop) : Prop :=
  (∃ Nc, n4 ≤ Nc ∧ Nc ≤ NF ∧ (v_Look_put_0 I3 n4 f4 s1 Nc (fun u => (v_FractionDresser_putLacking_41 J0 I1 n2 f2 u.1 u.2.1 u.2.2 x2 x3 x4 x6 k3 NF Z))))
def v_FractionDresser_putLacking_17 (J0 : Nat → Int64) (I1 : Nat → Int32) (n2 : Nat) (f2 : Nat → Int32) (I3 : Nat → Int32) (n4 : Nat) (f4 : Nat → Int32) (x2 : Int32) (x3 : Int32) (x4 : Int32) (x6 : Int32) (s0 : Int32) (k3 : (Nat → Int32) → Nat → (Nat → Int32) → Int32 → Prop) (NF : Nat) (Z : (Nat → Int32) × Nat × (Nat → Int32) → Prop) : Prop :=
  ((¬ s0 = x4 → (v_FractionDresser_putLacking_41 J0 I1 n2 f2 I3 n4 f4 x2 x3 x4 x6 k3 NF Z)) ∧ (s0 = x4 → ((¬ x4 = (63 : Int32) → (v_FractionDresser_putLacking_38 J0 I1 n2 f2 I3 n4 f4 x2 x3 x4 x6 x4 k3 NF Z)) ∧ (x4 = (63 : Int32) → (v_FractionDresser_putLacking_38 J0 I1 n2 f2 I3 n4 f4 x2 x3 x4 x6 (32 : Int32) k3 NF Z)))))
def v_FractionDresser_putLacking_3 (J0 : Nat → Int64) (I1 : Nat → Int32) (n2 : Nat) (f2 : Nat → Int32) (x2 : Int32) (x3 : Int32) (x4 : Int32)  (NF : Nat) (Z : (Nat → Int32) × Nat × (Nat → Int32) → Prop) : Nat → (Nat → Int32) → Nat → (Nat → Int32) → Int32 → Prop
  | 0 => fun _ _ _ _ => False
  | N + 1 => fun I3 n4 f4 x6 => (((x2 + x3) ≤ x6 → (n4 = NF ∧ Z (I3, n4, f4))) ∧ (¬ (x2 + x3) ≤ x6 → (v_Code_mark_0 I1 n2 f2 x6 (fun r u => (v_FractionDresser_putLacking_17 J0 I1 n2 f2 I3 n4 f4 x2 x3 x4 x6 r (v_FractionDresser_putLacking_3 J0 I1 n2 f2 x2 x3 x4  NF Z N) NF Z)))))
def v_FractionDresser_putLacking_0 (J0 : Nat → Int64) (I1 : Nat → Int32) (n2 : Nat) (f2 : Nat → Int32) (I3 : Nat → Int32) (n4 : Nat) (f4 : Nat → Int32) (x2 : Int32) (x3 : Int32) (x4 : Int32)  (NF : Nat) (Z : (Nat → Int32) × Nat × (Nat → Int32) → Prop) : Prop :=
  (∃ Nx, v_FractionDresser_putLacking_3 J0 I1 n2 f2 x2 x3 x4  NF Z Nx I3 n4 f4 x2)
def v_FractionDresser_putUnder_48 (J0 : Nat → Int64) (I1 : Nat → Int32) (I2 : Nat → Int32) (n3 : Nat) (f3 : Nat → Int32) (I4 : Nat → Int32) (n5 : Nat) (f5 : Nat → Int32)  (NF : Nat) (Z : (Nat → Int32) × Nat × (Nat → Int32) → Prop) : Prop :=
  (n5 = NF ∧ Z (I4, n5, f5))
def v_FractionDresser_putUnder_36 (J0 : Nat → Int64) (I1 : Nat → Int32) (I2 : Nat → Int32) (n3 : Nat) (f3 : Nat → Int32) (I4 : Nat → Int32) (n5 : Nat) (f5 : Nat → Int32) (x3 : Int32) (x5 : Int32)  (NF : Nat) (Z : (Nat → Int32) × Nat × (Nat → Int32) → Prop) : Prop :=
  (∃ Nc, n5 ≤ Nc ∧ Nc ≤ NF ∧ (v_FractionDresser_putLacking_0 J0 I2 n3 f3 I4 n5 f5 x3 x5 (63 : Int32) Nc (fun u => (v_FractionDresser_putUnder_48 J0 I1 I2 n3 f3 u.1 u.2.1 u.2.2  NF Z))))
def v_FractionDresser_putUnder_26 (J0 : Nat → Int64) (I1 : Nat → Int32) (I2 : Nat → Int32) (n3 : Nat) (f3 : Nat → Int32) (I4 : Nat → Int32) (n5 : Nat) (f5 : Nat → Int32) (x3 : Int32) (x5 : Int32)  (NF : Nat) (Z : (Nat → Int32) × Nat × (Nat → Int32) → Prop) : Prop :=
  (∃ Nc, n5 ≤ Nc ∧ Nc ≤ NF ∧ (v_Look_putNumber_0 I4 n5 f5 (J0 3) (1 : Int32) Nc (fun u => (v_FractionDresser_putUnder_36 J0 I1 I2 n3 f3 u.1 u.2.1 u.2.2 x3 x5  NF Z))))
def v_FractionDresser_putUnder_11 (J0 : Nat → Int64) (I1 : Nat → Int32) (I2 : Nat → Int32) (n3 : Nat) (f3 : Nat → Int32) (I4 : Nat → Int32) (n5 : Nat) (f5 : Nat → Int32) (x3 : Int32) (s0 : Int32) (s1 : Int32)  (NF : Nat) (Z : (Nat → Int32) × Nat × (Nat → Int32) → Prop) : Prop :=
  (∃ Nc, n5 ≤ Nc ∧ Nc ≤ NF ∧ (v_FractionDresser_putLacking_0 J0 I2 n3 f3 I4 n5 f5 x3 (s0 - s1) (48 : Int32) Nc (fun u => (v_FractionDresser_putUnder_26 J0 I1 I2 n3 f3 u.1 u.2.1 u.2.2 x3 (s0 - s1)  NF Z))))
def v_FractionDresser_putUnder_0 (J0 : Nat → Int64) (I1 : Nat → Int32) (I2 : Nat → Int32) (n3 : Nat) (f3 : Nat → Int32) (I4 : Nat → Int32) (n5 : Nat) (f5 : Nat → Int32) (x3 : Int32)  (NF : Nat) (Z : (Nat → Int32) × Nat × (Nat → Int32) → Prop) : Prop :=
  (v_ND_digitsOf_0 (J0 3) (fun r u => (v_FractionDresser_putUnder_11 J0 I1 I2 n3 f3 I4 n5 f5 x3 (I1 11) r  NF Z)))
def v_Digits_digit_34 (I0 : Nat → Int32) (J0 : Nat → Int64) (s0 : Int64) (s1 : Int64)  (Z : Int32 → Unit → Prop) : Prop :=
  (¬ s1 = 0 ∧ (Z ((s0 / s1) - (s0 / s1) / (10 : Int64) * (10 : Int64)).toInt32 ()))
def v_Digits_digit_0 (I0 : Nat → Int32) (J0 : Nat → Int64) (x1 : Int32)  (Z : Int32 → Unit → Prop) : Prop :=
  ((((x1 + (I0 3)) - (I0 1)) < 0 → (Z (0 : Int32) ())) ∧ (¬ ((x1 + (I0 3)) - (I0 1)) < 0 → ((((x1 + (I0 3)) - (I0 1)) < (19 : Int32) → (v_ND_tenTo_0 ((x1 + (I0 3)) - (I0 1)) (fun r u => (v_Digits_digit_34 I0 J0 (J0 0) r  Z)))) ∧ (¬ ((x1 + (I0 3)) - (I0 1)) < (19 : Int32) → (Z (0 : Int32) ())))))
def v_Look_putPlace_119 (I0 : Nat → Int32) (I1 : Nat → Int32) (J1 : Nat → Int64) (n2 : Nat) (f2 : Nat → Int32) (x2 : Int32) (x3 : Int32) (x5 : Int32) (x6 : Int32) (x8 : Int32) (k32 : (Nat → Int32) → Nat → (Nat → Int32) → Int32 → Prop) (NF : Nat) (Z : (Nat → Int32) × Nat × (Nat → Int32) → Prop) : Prop :=
  (k32 I0 n2 f2 (x8 + (-1 : Int32)))
def v_Look_putPlace_91 (I0 : Nat → Int32) (I1 : Nat → Int32) (J1 : Nat → Int64) (n2 : Nat) (f2 : Nat → Int32) (x2 : Int32) (x3 : Int32) (x5 : Int32) (x6 : Int32) (x8 : Int32) (x9 : Int32) (k32 : (Nat → Int32) → Nat → (Nat → Int32) → Int32 → Prop) (NF : Nat) (Z : (Nat → Int32) × Nat × (Nat → Int32) → Prop) : Prop :=
  ((x9 = 0 → (v_Look_putPlace_119 I0 I1 J1 n2 f2 x2 x3 x5 x6 x8 k32 NF Z)) ∧ (¬ x9 = 0 → ((x5 = 0 → (v_Look_putPlace_119 I0 I1 J1 n2 f2 x2 x3 x5 x6 x8 k32 NF Z)) ∧ (¬ x5 = 0 → ((x8 ≤ 0 → (v_Look_putPlace_119 I0 I1 J1 n2 f2 x2 x3 x5 x6 x8 k32 NF Z)) ∧ (¬ x8 ≤ 0 → ((¬ (x8 - x8 / (3 : Int32) * (3 : Int32)) = 0 → (v_Look_putPlace_119 I0 I1 J1 n2 f2 x2 x3 x5 x6 x8 k32 NF Z)) ∧ ((x8 - x8 / (3 : Int32) * (3 : Int32)) = 0 → (∃ Nc, n2 ≤ Nc ∧ Nc ≤ NF ∧ (v_Look_put_0 I0 n2 f2 (44 : Int32) Nc (fun u => (v_Look_putPlace_119 u.1 I1 J1 u.2.1 u.2.2 x2 x3 x5 x6 x8 k32 NF Z))))))))))))
def v_Look_putPlace_76 (I0 : Nat → Int32) (I1 : Nat → Int32) (J1 : Nat → Int64) (n2 : Nat) (f2 : Nat → Int32) (x2 : Int32) (x3 : Int32) (x5 : Int32) (x6 : Int32) (x8 : Int32) (x9 : Int32) (k32 : (Nat → Int32) → Nat → (Nat → Int32) → Int32 → Prop) (NF : Nat) (Z : (Nat → Int32) × Nat × (Nat → Int32) → Prop) : Prop :=
  (v_Look_putPlace_91 I0 I1 J1 n2 f2 x2 x3 x5 x6 x8 x9 k32 NF Z)
def v_Look_putPlace_72 (I0 : Nat → Int32) (I1 : Nat → Int32) (J1 : Nat → Int64) (n2 : Nat) (f2 : Nat → Int32) (x2 : Int32) (x3 : Int32) (x5 : Int32) (x6 : Int32) (x8 : Int32) (x9 : Int32) (s1 : Int32) (s2 : Int32) (k32 : (Nat → Int32) → Nat → (Nat → Int32) → Int32 → Prop) (NF : Nat) (Z : (Nat → Int32) × Nat × (Nat → Int32) → Prop) : Prop :=
  (∃ Nc, n2 ≤ Nc ∧ Nc ≤ NF ∧ (v_Look_put_0 I0 n2 f2 (s1 + s2) Nc (fun u => (v_Look_putPlace_76 u.1 I1 J1 u.2.1 u.2.2 x2 x3 x5 x6 x8 x9 k32 NF Z))))
def v_Look_putPlace_56 (I0 : Nat → Int32) (I1 : Nat → Int32) (J1 : Nat → Int64) (n2 : Nat) (f2 : Nat → Int32) (x2 : Int32) (x3 : Int32) (x5 : Int32) (x6 : Int32) (x8 : Int32) (s0 : Int32) (k32 : (Nat → Int32) → Nat → (Nat → Int32) → Int32 → Prop) (NF : Nat) (Z : (Nat → Int32) × Nat × (Nat → Int32) → Prop) : Prop :=
  ((s0 = 0 → ((¬ x2 = (63 : Int32) → (v_Look_putPlace_91 I0 I1 J1 n2 f2 x2 x3 x5 x6 x8 s0 k32 NF Z)) ∧ (x2 = (63 : Int32) → (∃ Nc, n2 ≤ Nc ∧ Nc ≤ NF ∧ (v_Look_put_0 I0 n2 f2 (32 : Int32) Nc (fun u => (v_Look_putPlace_91 u.1 I1 J1 u.2.1 u.2.2 x2 x3 x5 x6 x8 s0 k32 NF Z))))))) ∧ (¬ s0 = 0 → (v_Digits_digit_0 I1 J1 x8 (fun r u => (v_Look_putPlace_72 I0 I1 J1 n2 f2 x2 x3 x5 x6 x8 s0 (48 : Int32) r k32 NF Z)))))
def v_Look_putPlace_51 (I0 : Nat → Int32) (I1 : Nat → Int32) (J1 : Nat → Int64) (n2 : Nat) (f2 : Nat → Int32) (x2 : Int32) (x3 : Int32) (x5 : Int32) (x6 : Int32) (x8 : Int32) (k32 : (Nat → Int32) → Nat → (Nat → Int32) → Int32 → Prop) (NF : Nat) (Z : (Nat → Int32) × Nat × (Nat → Int32) → Prop) : Prop :=
  (v_Look_putPlace_56 I0 I1 J1 n2 f2 x2 x3 x5 x6 x8 (1 : Int32) k32 NF Z)
def v_Look_putPlace_32 (I1 : Nat → Int32) (J1 : Nat → Int64) (x2 : Int32) (x3 : Int32) (x5 : Int32) (x6 : Int32)  (NF : Nat) (Z : (Nat → Int32) × Nat × (Nat → Int32) → Prop) : Nat → (Nat → Int32) → Nat → (Nat → Int32) → Int32 → Prop
  | 0 => fun _ _ _ _ => False
  | N + 1 => fun I0 n2 f2 x8 => ((x8 < x3 → (n2 = NF ∧ Z (I0, n2, f2))) ∧ (¬ x8 < x3 → ((x8 < x6 → (v_Look_putPlace_51 I0 I1 J1 n2 f2 x2 x3 x5 x6 x8 (v_Look_putPlace_32 I1 J1 x2 x3 x5 x6  NF Z N) NF Z)) ∧ (¬ x8 < x6 → ((¬ x2 = (48 : Int32) → (v_Look_putPlace_56 I0 I1 J1 n2 f2 x2 x3 x5 x6 x8 (0 : Int32) (v_Look_putPlace_32 I1 J1 x2 x3 x5 x6  NF Z N) NF Z)) ∧ (x2 = (48 : Int32) → (v_Look_putPlace_51 I0 I1 J1 n2 f2 x2 x3 x5 x6 x8 (v_Look_putPlace_32 I1 J1 x2 x3 x5 x6  NF Z N) NF Z)))))))
def v_Look_putPlace_26 (I0 : Nat → Int32) (I1 : Nat → Int32) (J1 : Nat → Int64) (n2 : Nat) (f2 : Nat → Int32) (x2 : Int32) (x3 : Int32) (x5 : Int32) (x6 : Int32) (s0 : Int32)  (NF : Nat) (Z : (Nat → Int32) × Nat × (Nat → Int32) → Prop) : Prop :=
  (∃ Nx, v_Look_putPlace_32 I1 J1 x2 x3 x5 x6  NF Z Nx I0 n2 f2 s0)
def v_Look_putPlace_4 (I0 : Nat → Int32) (I1 : Nat → Int32) (J1 : Nat → Int64) (n2 : Nat) (f2 : Nat → Int32) (x2 : Int32) (x3 : Int32) (x4 : Int32) (x5 : Int32) (s0 : Int32)  (NF : Nat) (Z : (Nat → Int32) × Nat × (Nat → Int32) → Prop) : Prop :=
  ((¬ x3 = (x4 - (1 : Int32)) → (v_Look_putPlace_26 I0 I1 J1 n2 f2 x2 x3 x5 s0 x3  NF Z)) ∧ (x3 = (x4 - (1 : Int32)) → (v_Look_putPlace_26 I0 I1 J1 n2 f2 x2 x3 x5 s0 (zmax (s0 - (1 : Int32)) x3)  NF Z)))
def v_Look_putPlace_0 (I0 : Nat → Int32) (I1 : Nat → Int32) (J1 : Nat → Int64) (n2 : Nat) (f2 : Nat → Int32) (x2 : Int32) (x3 : Int32) (x4 : Int32) (x5 : Int32)  (NF : Nat) (Z : (Nat → Int32) × Nat × (Nat → Int32) → Prop) : Prop :=
  (v_Digits_wholes_0 I1 J1 (fun r u => (v_Look_putPlace_4 I0 I1 J1 n2 f2 x2 x3 x4 x5 r  NF Z)))
def v_FractionDresser_putItems_189 (J0 : Nat → Int64) (I1 : Nat → Int32) (I2 : Nat → Int32) (n3 : Nat) (f3 : Nat → Int32) (n4 : Nat) (f4 : Nat → Int32) (J5 : Nat → Int64) (I6 : Nat → Int32) (I7 : Nat → Int32) (J7 : Nat → Int64) (n8 : Nat) (f8 : Nat → Int32) (I9 : Nat → Int32) (J9 : Nat → Int64) (x4 : Int32) (x5 : Int32) (x6 : Int32) (x7 : Int32) (k41 : (Nat → Int32) → Nat → (Nat → Int32) → Int32 → Int32 → Int32 → Prop) (NF : Nat) (Z : (Nat → Int32) × Nat × (Nat → Int32) → Prop) : Prop :=
  (k41 I6 n8 f8 x5 x6 (x7 + (1 : Int32)))
def v_FractionDresser_putItems_110 (J0 : Nat → Int64) (I1 : Nat → Int32) (I2 : Nat → Int32) (n3 : Nat) (f3 : Nat → Int32) (n4 : Nat) (f4 : Nat → Int32) (J5 : Nat → Int64) (I6 : Nat → Int32) (I7 : Nat → Int32) (J7 : Nat → Int64) (n8 : Nat) (f8 : Nat → Int32) (I9 : Nat → Int32) (J9 : Nat → Int64) (x4 : Int32) (x5 : Int32) (x6 : Int32) (x7 : Int32) (k41 : (Nat → Int32) → Nat → (Nat → Int32) → Int32 → Int32 → Int32 → Prop) (NF : Nat) (Z : (Nat → Int32) × Nat × (Nat → Int32) → Prop) : Prop :=
  (v_FractionDresser_putItems_189 J0 I1 I2 n3 f3 n4 f4 J5 I6 I7 J7 n8 f8 I9 J9 x4 x5 x6 x7 k41 NF Z)
def v_FractionDresser_putItems_132 (J0 : Nat → Int64) (I1 : Nat → Int32) (I2 : Nat → Int32) (n3 : Nat) (f3 : Nat → Int32) (n4 : Nat) (f4 : Nat → Int32) (J5 : Nat → Int64) (I6 : Nat → Int32) (I7 : Nat → Int32) (J7 : Nat → Int64) (n8 : Nat) (f8 : Nat → Int32) (I9 : Nat → Int32) (J9 : Nat → Int64) (x4 : Int32) (x5 : Int32) (x6 : Int32) (x7 : Int32) (k41 : (Nat → Int32) → Nat → (Nat → Int32) → Int32 → Int32 → Int32 → Prop) (NF : Nat) (Z : (Nat → Int32) × Nat × (Nat → Int32) → Prop) : Prop :=
  (v_FractionDresser_putItems_189 J0 I1 I2 n3 f3 n4 f4 J5 I6 I7 J7 n8 f8 I9 J9 x4 x5 x6 x7 k41 NF Z)
def v_FractionDresser_putItems_162 (J0 : Nat → Int64) (I1 : Nat → Int32) (I2 : Nat → Int32) (n3 : Nat) (f3 : Nat → Int32) (n4 : Nat) (f4 : Nat → Int32) (J5 : Nat → Int64) (I6 : Nat → Int32) (I7 : Nat → Int32) (J7 : Nat → Int64) (n8 : Nat) (f8 : Nat → Int32) (I9 : Nat → Int32) (J9 : Nat → Int64) (x4 : Int32) (x5 : Int32) (x6 : Int32) (x7 : Int32) (k41 : (Nat → Int32) → Nat → (Nat → Int32) → Int32 → Int32 → Int32 → Prop) (NF : Nat) (Z : (Nat → Int32) × Nat × (Nat → Int32) → Prop) : Prop :=
  (v_FractionDresser_putItems_189 J0 I1 I2 n3 f3 n4 f4 J5 I6 I7 J7 n8 f8 I9 J9 x4 x5 x6 x7 k41 NF Z)
def v_FractionDresser_putItems_178 (J0 : Nat → Int64) (I1 : Nat → Int32) (I2 : Nat → Int32) (n3 : Nat) (f3 : Nat → Int32) (n4 : Nat) (f4 : Nat → Int32) (J5 : Nat → Int64) (I6 : Nat → Int32) (I7 : Nat → Int32) (J7 : Nat → Int64) (n8 : Nat) (f8 : Nat → Int32) (I9 : Nat → Int32) (J9 : Nat → Int64) (x4 : Int32) (x5 : Int32) (x6 : Int32) (x7 : Int32) (k41 : (Nat → Int32) → Nat → (Nat → Int32) → Int32 → Int32 → Int32 → Prop) (NF : Nat) (Z : (Nat → Int32) × Nat × (Nat → Int32) → Prop) : Prop :=
  (∃ Nc, n8 ≤ Nc ∧ Nc ≤ NF ∧ (v_FractionDresser_putUnder_0 J0 I1 I2 n4 f4 I6 n8 f8 (x7 + (1 : Int32)) Nc (fun u => (v_FractionDresser_putItems_189 J0 I1 I2 n3 f3 n4 f4 J5 u.1 I7 J7 u.2.1 u.2.2 I9 J9 x4 x5 x6 x7 k41 NF Z))))
def v_FractionDresser_putItems_135 (J0 : Nat → Int64) (I1 : Nat → Int32) (I2 : Nat → Int32) (n3 : Nat) (f3 : Nat → Int32) (n4 : Nat) (f4 : Nat → Int32) (J5 : Nat → Int64) (I6 : Nat → Int32) (I7 : Nat → Int32) (J7 : Nat → Int64) (n8 : Nat) (f8 : Nat → Int32) (I9 : Nat → Int32) (J9 : Nat → Int64) (x4 : Int32) (x5 : Int32) (x6 : Int32) (x7 : Int32) (x8 : Int32) (x9 : Int32) (k41 : (Nat → Int32) → Nat → (Nat → Int32) → Int32 → Int32 → Int32 → Prop) (NF : Nat) (Z : (Nat → Int32) × Nat × (Nat → Int32) → Prop) : Prop :=
  ((¬ x8 = (9 : Int32) → ((¬ x8 = (10 : Int32) → (v_FractionDresser_putItems_189 J0 I1 I2 n3 f3 n4 f4 J5 I6 I7 J7 n8 f8 I9 J9 x4 x5 x6 x7 k41 NF Z)) ∧ (x8 = (10 : Int32) → (∃ Nc, n8 ≤ Nc ∧ Nc ≤ NF ∧ (v_Look_put_0 I6 n8 f8 (47 : Int32) Nc (fun u => (v_FractionDresser_putItems_178 J0 I1 I2 n3 f3 n4 f4 J5 u.1 I7 J7 u.2.1 u.2.2 I9 J9 x4 x5 x6 x7 k41 NF Z))))))) ∧ (x8 = (9 : Int32) → (∃ Nc, n8 ≤ Nc ∧ Nc ≤ NF ∧ (v_Look_putPlace_0 I6 I9 J9 n8 f8 x9 (x6 + (-1 : Int32)) (I1 10) (0 : Int32) Nc (fun u => (v_FractionDresser_putItems_162 J0 I1 I2 n3 f3 n4 f4 J5 u.1 I7 J7 u.2.1 u.2.2 I9 J9 x4 x5 (x6 + (-1 : Int32)) x7 k41 NF Z))))))
def v_FractionDresser_putItems_123 (J0 : Nat → Int64) (I1 : Nat → Int32) (I2 : Nat → Int32) (n3 : Nat) (f3 : Nat → Int32) (n4 : Nat) (f4 : Nat → Int32) (J5 : Nat → Int64) (I6 : Nat → Int32) (I7 : Nat → Int32) (J7 : Nat → Int64) (n8 : Nat) (f8 : Nat → Int32) (I9 : Nat → Int32) (J9 : Nat → Int64) (x4 : Int32) (x5 : Int32) (x6 : Int32) (x7 : Int32) (x8 : Int32) (x9 : Int32) (s0 : Int32) (k41 : (Nat → Int32) → Nat → (Nat → Int32) → Int32 → Int32 → Int32 → Prop) (NF : Nat) (Z : (Nat → Int32) × Nat × (Nat → Int32) → Prop) : Prop :=
  ((s0 = 0 → (v_FractionDresser_putItems_135 J0 I1 I2 n3 f3 n4 f4 J5 I6 I7 J7 n8 f8 I9 J9 x4 x5 x6 x7 x8 x9 k41 NF Z)) ∧ (¬ s0 = 0 → (∃ Nc, n8 ≤ Nc ∧ Nc ≤ NF ∧ (v_Look_put_0 I6 n8 f8 (32 : Int32) Nc (fun u => (v_FractionDresser_putItems_132 J0 I1 I2 n3 f3 n4 f4 J5 u.1 I7 J7 u.2.1 u.2.2 I9 J9 x4 x5 x6 x7 k41 NF Z))))))
def v_FractionDresser_putItems_78 (J0 : Nat → Int64) (I1 : Nat → Int32) (I2 : Nat → Int32) (n3 : Nat) (f3 : Nat → Int32) (n4 : Nat) (f4 : Nat → Int32) (J5 : Nat → Int64) (I6 : Nat → Int32) (I7 : Nat → Int32) (J7 : Nat → Int64) (n8 : Nat) (f8 : Nat → Int32) (I9 : Nat → Int32) (J9 : Nat → Int64) (x4 : Int32) (x5 : Int32) (x6 : Int32) (x7 : Int32) (k41 : (Nat → Int32) → Nat → (Nat → Int32) → Int32 → Int32 → Int32 → Prop) (NF : Nat) (Z : (Nat → Int32) × Nat × (Nat → Int32) → Prop) : Prop :=
  (v_FractionDresser_putItems_189 J0 I1 I2 n3 f3 n4 f4 J5 I6 I7 J7 n8 f8 I9 J9 x4 x5 x6 x7 k41 NF Z)
def v_FractionDresser_putItems_64 (J0 : Nat → Int64) (I1 : Nat → Int32) (I2 : Nat → Int32) (n3 : Nat) (f3 : Nat → Int32) (n4 : Nat) (f4 : Nat → Int32) (J5 : Nat → Int64) (I6 : Nat → Int32) (I7 : Nat → Int32) (J7 : Nat → Int64) (n8 : Nat) (f8 : Nat → Int32) (I9 : Nat → Int32) (J9 : Nat → Int64) (x4 : Int32) (x5 : Int32) (x6 : Int32) (x7 : Int32) (x8 : Int32) (s0 : Int32) (k41 : (Nat → Int32) → Nat → (Nat → Int32) → Int32 → Int32 → Int32 → Prop) (NF : Nat) (Z : (Nat → Int32) × Nat × (Nat → Int32) → Prop) : Prop :=
  ((¬ x8 = (1 : Int32) → ((¬ x8 = (2 : Int32) → ((x4 = 0 → (v_FractionDresser_putItems_135 J0 I1 I2 n3 f3 n4 f4 J5 I6 I7 J7 n8 f8 I9 J9 x4 x5 x6 x7 x8 s0 k41 NF Z)) ∧ (¬ x4 = 0 → (v_FractionDresser_isOfFraction_0 x8 (fun r u => (v_FractionDresser_putItems_123 J0 I1 I2 n3 f3 n4 f4 J5 I6 I7 J7 n8 f8 I9 J9 x4 x5 x6 x7 x8 s0 r k41 NF Z)))))) ∧ (x8 = (2 : Int32) → (∃ Nc, n8 ≤ Nc ∧ Nc ≤ NF ∧ (v_Look_putPlace_0 I6 I7 J7 n8 f8 s0 (x5 + (-1 : Int32)) (I1 3) (0 : Int32) Nc (fun u => (v_FractionDresser_putItems_110 J0 I1 I2 n3 f3 n4 f4 J5 u.1 I7 J7 u.2.1 u.2.2 I9 J9 x4 (x5 + (-1 : Int32)) x6 x7 k41 NF Z))))))) ∧ (x8 = (1 : Int32) → (∃ Nc, n8 ≤ Nc ∧ Nc ≤ NF ∧ (v_Look_put_0 I6 n8 f8 s0 Nc (fun u => (v_FractionDresser_putItems_78 J0 I1 I2 n3 f3 n4 f4 J5 u.1 I7 J7 u.2.1 u.2.2 I9 J9 x4 x5 x6 x7 k41 NF Z))))))
def v_FractionDresser_putItems_56 (J0 : Nat → Int64) (I1 : Nat → Int32) (I2 : Nat → Int32) (n3 : Nat) (f3 : Nat → Int32) (n4 : Nat) (f4 : Nat → Int32) (J5 : Nat → Int64) (I6 : Nat → Int32) (I7 : Nat → Int32) (J7 : Nat → Int64) (n8 : Nat) (f8 : Nat → Int32) (I9 : Nat → Int32) (J9 : Nat → Int64) (x4 : Int32) (x5 : Int32) (x6 : Int32) (x7 : Int32) (s0 : Int32) (k41 : (Nat → Int32) → Nat → (Nat → Int32) → Int32 → Int32 → Int32 → Prop) (NF : Nat) (Z : (Nat → Int32) × Nat × (Nat → Int32) → Prop) : Prop :=
  (v_Code_mark_0 I2 n4 f4 x7 (fun r u => (v_FractionDresser_putItems_64 J0 I1 I2 n3 f3 n4 f4 J5 I6 I7 J7 n8 f8 I9 J9 x4 x5 x6 x7 s0 r k41 NF Z)))
def v_FractionDresser_putItems_41 (J0 : Nat → Int64) (I1 : Nat → Int32) (I2 : Nat → Int32) (n3 : Nat) (f3 : Nat → Int32) (n4 : Nat) (f4 : Nat → Int32) (J5 : Nat → Int64) (I7 : Nat → Int32) (J7 : Nat → Int64) (I9 : Nat → Int32) (J9 : Nat → Int64) (x4 : Int32)  (NF : Nat) (Z : (Nat → Int32) × Nat × (Nat → Int32) → Prop) : Nat → (Nat → Int32) → Nat → (Nat → Int32) → Int32 → Int32 → Int32 → Prop
  | 0 => fun _ _ _ _ _ _ => False
  | N + 1 => fun I6 n8 f8 x5 x6 x7 => (((I1 2) ≤ x7 → (n8 = NF ∧ Z (I6, n8, f8))) ∧ (¬ (I1 2) ≤ x7 → (v_Code_kind_0 I2 n3 f3 x7 (fun r u => (v_FractionDresser_putItems_56 J0 I1 I2 n3 f3 n4 f4 J5 I6 I7 J7 n8 f8 I9 J9 x4 x5 x6 x7 r (v_FractionDresser_putItems_41 J0 I1 I2 n3 f3 n4 f4 J5 I7 J7 I9 J9 x4  NF Z N) NF Z)))))
def v_FractionDresser_putItems_21 (J0 : Nat → Int64) (I1 : Nat → Int32) (I2 : Nat → Int32) (n3 : Nat) (f3 : Nat → Int32) (n4 : Nat) (f4 : Nat → Int32) (J5 : Nat → Int64) (I6 : Nat → Int32) (I7 : Nat → Int32) (J7 : Nat → Int64) (n8 : Nat) (f8 : Nat → Int32) (I9 : Nat → Int32) (J9 : Nat → Int64) (s0 : Int32)  (NF : Nat) (Z : (Nat → Int32) × Nat × (Nat → Int32) → Prop) : Prop :=
  (∃ Nx, v_FractionDresser_putItems_41 J0 I1 I2 n3 f3 n4 f4 J5 I7 J7 I9 J9 s0  NF Z Nx I6 n8 f8 (I1 3) (I1 10) (I1 1))
def v_FractionDresser_putItems_20 (J0 : Nat → Int64) (I1 : Nat → Int32) (I2 : Nat → Int32) (n3 : Nat) (f3 : Nat → Int32) (n4 : Nat) (f4 : Nat → Int32) (J5 : Nat → Int64) (I6 : Nat → Int32) (I7 : Nat → Int32) (J7 : Nat → Int64) (n8 : Nat) (f8 : Nat → Int32) (I9 : Nat → Int32) (J9 : Nat → Int64)  (NF : Nat) (Z : (Nat → Int32) × Nat × (Nat → Int32) → Prop) : Prop :=
  (v_FractionDresser_putItems_21 J0 I1 I2 n3 f3 n4 f4 J5 I6 I7 J7 n8 f8 I9 J9 (0 : Int32)  NF Z)
def v_FractionDresser_putItems_0 (J0 : Nat → Int64) (I1 : Nat → Int32) (I2 : Nat → Int32) (n3 : Nat) (f3 : Nat → Int32) (n4 : Nat) (f4 : Nat → Int32) (J5 : Nat → Int64) (I6 : Nat → Int32) (I7 : Nat → Int32) (J7 : Nat → Int64) (n8 : Nat) (f8 : Nat → Int32) (I9 : Nat → Int32) (J9 : Nat → Int64)  (NF : Nat) (Z : (Nat → Int32) × Nat × (Nat → Int32) → Prop) : Prop :=
  ((¬ (J0 2) = (0 : Int64) → (v_FractionDresser_putItems_20 J0 I1 I2 n3 f3 n4 f4 J5 I6 I7 J7 n8 f8 I9 J9  NF Z)) ∧ ((J0 2) = (0 : Int64) → (((I1 3) ≤ 0 → (v_FractionDresser_putItems_20 J0 I1 I2 n3 f3 n4 f4 J5 I6 I7 J7 n8 f8 I9 J9  NF Z)) ∧ (¬ (I1 3) ≤ 0 → (v_FractionDresser_putItems_21 J0 I1 I2 n3 f3 n4 f4 J5 I6 I7 J7 n8 f8 I9 J9 (1 : Int32)  NF Z)))))
