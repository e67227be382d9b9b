/-! two runs of one predicate with two ends give one with both -/
theorem jI_ite {c A1 A2 A3 B1 B2 B3 : Prop} (h1 : c → A1 → A2 → A3) (h2 : ¬ c → B1 → B2 → B3) : ((c → A1) ∧ (¬ c → B1)) → ((c → A2) ∧ (¬ c → B2)) → ((c → A3) ∧ (¬ c → B3)) := fun a b => ⟨fun k => h1 k (a.1 k) (b.1 k), fun k => h2 k (a.2 k) (b.2 k)⟩
theorem jI_ite' {c A1 A2 A3 B1 B2 B3 : Prop} (h1 : ¬ c → A1 → A2 → A3) (h2 : c → B1 → B2 → B3) : ((¬ c → A1) ∧ (c → B1)) → ((¬ c → A2) ∧ (c → B2)) → ((¬ c → A3) ∧ (c → B3)) := fun a b => ⟨fun k => h1 k (a.1 k) (b.1 k), fun k => h2 k (a.2 k) (b.2 k)⟩
theorem jI_and {Q A1 A2 A3 : Prop} (h : A1 → A2 → A3) : Q ∧ A1 → Q ∧ A2 → Q ∧ A3 := fun a b => ⟨a.1, h a.2 b.2⟩
theorem jI_ex {P1 P2 P3 : Nat → Prop} (h : ∀ N M, P1 N → P2 M → P3 N) : (∃ N, P1 N) → (∃ N, P2 N) → ∃ N, P3 N := fun ⟨N, a⟩ ⟨M, b⟩ => ⟨N, h N M a b⟩
theorem jI_all {α : Type} {t : α} {P1 P2 P3 : α → Prop} (h : P1 t → P2 t → P3 t) : (∀ y, y = t → P1 y) → (∀ y, y = t → P2 y) → ∀ y, y = t → P3 y := fun a b y hy => by subst hy; exact h (a _ rfl) (b _ rfl)
theorem jI_no {A B : Prop} : False → A → B := fun h _ => h.elim

theorem jI_4 {s : Nat} {A0 A1 A2 A3 B0 B1 B2 B3 C0 C1 C2 C3 : Prop} (h0 : s = 0 → A0 → B0 → C0) (h1 : s = 1 → A1 → B1 → C1) (h2 : s = 2 → A2 → B2 → C2) (h3 : s = 3 → A3 → B3 → C3) :
    (s < 4 ∧ (s = 0 → A0) ∧ (s = 1 → A1) ∧ (s = 2 → A2) ∧ (s = 3 → A3)) → (s < 4 ∧ (s = 0 → B0) ∧ (s = 1 → B1) ∧ (s = 2 → B2) ∧ (s = 3 → B3)) → (s < 4 ∧ (s = 0 → C0) ∧ (s = 1 → C1) ∧ (s = 2 → C2) ∧ (s = 3 → C3)) := fun a b => ⟨a.1, fun e => h0 e (a.2.1 e) (b.2.1 e), fun e => h1 e (a.2.2.1 e) (b.2.2.1 e), fun e => h2 e (a.2.2.2.1 e) (b.2.2.2.1 e), fun e => h3 e (a.2.2.2.2 e) (b.2.2.2.2 e)⟩
theorem jI_opt {o : Option Nat} {A1 A2 A3 : Prop} {B1 B2 B3 : Nat → Prop} (h1 : o = none → A1 → A2 → A3) (h2 : ∀ j, o = some j → B1 j → B2 j → B3 j) : ((o = none → A1) ∧ (∀ j : Nat, o = some j → B1 j)) → ((o = none → A2) ∧ (∀ j : Nat, o = some j → B2 j)) → ((o = none → A3) ∧ (∀ j : Nat, o = some j → B3 j)) := fun a b => ⟨fun e => h1 e (a.1 e) (b.1 e), fun j e => h2 j e (a.2 j e) (b.2 j e)⟩
theorem y_Section_clear_0 {I0 : Nat → Int32} {x1 : Int32} {Z_1 Z_2 Z_3 : (Nat → Int32) → Prop} (h : ((Z_1 ((zu (zu (zu (zu (zu (zu (zu (zu (zu (zu (zu (zu (zu (zu (zu I0 0 (1 : Int32)) 1 x1) 2 x1) 3 (0 : Int32)) 4 (0 : Int32)) 5 (0 : Int32)) 6 (0 : Int32)) 7 (0 : Int32)) 8 (0 : Int32)) 9 (0 : Int32)) 10 (0 : Int32)) 11 (0 : Int32)) 12 (0 : Int32)) 13 (0 : Int32)) 14 (0 : Int32))))) → ((Z_2 ((zu (zu (zu (zu (zu (zu (zu (zu (zu (zu (zu (zu (zu (zu (zu I0 0 (1 : Int32)) 1 x1) 2 x1) 3 (0 : Int32)) 4 (0 : Int32)) 5 (0 : Int32)) 6 (0 : Int32)) 7 (0 : Int32)) 8 (0 : Int32)) 9 (0 : Int32)) 10 (0 : Int32)) 11 (0 : Int32)) 12 (0 : Int32)) 13 (0 : Int32)) 14 (0 : Int32))))) → ((Z_3 ((zu (zu (zu (zu (zu (zu (zu (zu (zu (zu (zu (zu (zu (zu (zu I0 0 (1 : Int32)) 1 x1) 2 x1) 3 (0 : Int32)) 4 (0 : Int32)) 5 (0 : Int32)) 6 (0 : Int32)) 7 (0 : Int32)) 8 (0 : Int32)) 9 (0 : Int32)) 10 (0 : Int32)) 11 (0 : Int32)) 12 (0 : Int32)) 13 (0 : Int32)) 14 (0 : Int32)))))) : v_Section_clear_0 I0 x1 Z_1 → v_Section_clear_0 I0 x1 Z_2 → v_Section_clear_0 I0 x1 Z_3 := h
theorem y_Code_open_43 {I0 : Nat → Int32} {I2 : Nat → Int32} {I3 : Nat → Int32} {I4 : Nat → Int32} {I5 : Nat → Int32} {x1 : Nat} {Z_1 Z_2 Z_3 : Option Nat → (Nat → Int32) × (Nat → Int32) × (Nat → Int32) × (Nat → Int32) × (Nat → Int32) → Prop} (h : ((Z_1 (some x1) ((zu I0 1 ((I0 1) + (1 : Int32))), I2, I3, I4, I5))) → ((Z_2 (some x1) ((zu I0 1 ((I0 1) + (1 : Int32))), I2, I3, I4, I5))) → ((Z_3 (some x1) ((zu I0 1 ((I0 1) + (1 : Int32))), I2, I3, I4, I5)))) : v_Code_open_43 I0 I2 I3 I4 I5 x1 Z_1 → v_Code_open_43 I0 I2 I3 I4 I5 x1 Z_2 → v_Code_open_43 I0 I2 I3 I4 I5 x1 Z_3 := h
theorem y_Code_open_0 {I0 : Nat → Int32} {I2 : Nat → Int32} {I3 : Nat → Int32} {I4 : Nat → Int32} {I5 : Nat → Int32} {Z_1 Z_2 Z_3 : Option Nat → (Nat → Int32) × (Nat → Int32) × (Nat → Int32) × (Nat → Int32) × (Nat → Int32) → Prop} (h : ((((I0 1) < 0 → (Z_1 none (I0, I2, I3, I4, I5))) ∧ (¬ (I0 1) < 0 → (((I0 1) < (nI 4) → (vp_in (I0 1) 4 ∧ (∀ j_4 : Nat, j_4 = (I0 1).toNatClampNeg → (j_4 < 4 ∧ (j_4 = 0 → (v_Section_clear_0 I2 (I0 4) (fun u => (v_Code_open_43 I0 u I3 I4 I5 0  Z_1)))) ∧ (j_4 = 1 → (v_Section_clear_0 I3 (I0 4) (fun u => (v_Code_open_43 I0 I2 u I4 I5 1  Z_1)))) ∧ (j_4 = 2 → (v_Section_clear_0 I4 (I0 4) (fun u => (v_Code_open_43 I0 I2 I3 u I5 2  Z_1)))) ∧ (j_4 = 3 → (v_Section_clear_0 I5 (I0 4) (fun u => (v_Code_open_43 I0 I2 I3 I4 u 3  Z_1)))))))) ∧ (¬ (I0 1) < (nI 4) → (Z_1 none (I0, I2, I3, I4, I5))))))) → ((((I0 1) < 0 → (Z_2 none (I0, I2, I3, I4, I5))) ∧ (¬ (I0 1) < 0 → (((I0 1) < (nI 4) → (vp_in (I0 1) 4 ∧ (∀ j_4 : Nat, j_4 = (I0 1).toNatClampNeg → (j_4 < 4 ∧ (j_4 = 0 → (v_Section_clear_0 I2 (I0 4) (fun u => (v_Code_open_43 I0 u I3 I4 I5 0  Z_2)))) ∧ (j_4 = 1 → (v_Section_clear_0 I3 (I0 4) (fun u => (v_Code_open_43 I0 I2 u I4 I5 1  Z_2)))) ∧ (j_4 = 2 → (v_Section_clear_0 I4 (I0 4) (fun u => (v_Code_open_43 I0 I2 I3 u I5 2  Z_2)))) ∧ (j_4 = 3 → (v_Section_clear_0 I5 (I0 4) (fun u => (v_Code_open_43 I0 I2 I3 I4 u 3  Z_2)))))))) ∧ (¬ (I0 1) < (nI 4) → (Z_2 none (I0, I2, I3, I4, I5))))))) → ((((I0 1) < 0 → (Z_3 none (I0, I2, I3, I4, I5))) ∧ (¬ (I0 1) < 0 → (((I0 1) < (nI 4) → (vp_in (I0 1) 4 ∧ (∀ j_4 : Nat, j_4 = (I0 1).toNatClampNeg → (j_4 < 4 ∧ (j_4 = 0 → (v_Section_clear_0 I2 (I0 4) (fun u => (v_Code_open_43 I0 u I3 I4 I5 0  Z_3)))) ∧ (j_4 = 1 → (v_Section_clear_0 I3 (I0 4) (fun u => (v_Code_open_43 I0 I2 u I4 I5 1  Z_3)))) ∧ (j_4 = 2 → (v_Section_clear_0 I4 (I0 4) (fun u => (v_Code_open_43 I0 I2 I3 u I5 2  Z_3)))) ∧ (j_4 = 3 → (v_Section_clear_0 I5 (I0 4) (fun u => (v_Code_open_43 I0 I2 I3 I4 u 3  Z_3)))))))) ∧ (¬ (I0 1) < (nI 4) → (Z_3 none (I0, I2, I3, I4, I5)))))))) : v_Code_open_0 I0 I2 I3 I4 I5 Z_1 → v_Code_open_0 I0 I2 I3 I4 I5 Z_2 → v_Code_open_0 I0 I2 I3 I4 I5 Z_3 := h
theorem y_Reader_colour_0 {x0 : Int32} {Z_1 Z_2 Z_3 : Nat → Unit → Prop} (h : (((x0 = (0 : Int32) → (Z_1 0 ())) ∧ (¬ x0 = (0 : Int32) → ((x0 = (1 : Int32) → (Z_1 1 ())) ∧ (¬ x0 = (1 : Int32) → ((x0 = (2 : Int32) → (Z_1 2 ())) ∧ (¬ x0 = (2 : Int32) → ((x0 = (3 : Int32) → (Z_1 3 ())) ∧ (¬ x0 = (3 : Int32) → ((x0 = (4 : Int32) → (Z_1 4 ())) ∧ (¬ x0 = (4 : Int32) → ((x0 = (5 : Int32) → (Z_1 5 ())) ∧ (¬ x0 = (5 : Int32) → ((x0 = (6 : Int32) → (Z_1 6 ())) ∧ (¬ x0 = (6 : Int32) → (Z_1 7 ())))))))))))))))) → (((x0 = (0 : Int32) → (Z_2 0 ())) ∧ (¬ x0 = (0 : Int32) → ((x0 = (1 : Int32) → (Z_2 1 ())) ∧ (¬ x0 = (1 : Int32) → ((x0 = (2 : Int32) → (Z_2 2 ())) ∧ (¬ x0 = (2 : Int32) → ((x0 = (3 : Int32) → (Z_2 3 ())) ∧ (¬ x0 = (3 : Int32) → ((x0 = (4 : Int32) → (Z_2 4 ())) ∧ (¬ x0 = (4 : Int32) → ((x0 = (5 : Int32) → (Z_2 5 ())) ∧ (¬ x0 = (5 : Int32) → ((x0 = (6 : Int32) → (Z_2 6 ())) ∧ (¬ x0 = (6 : Int32) → (Z_2 7 ())))))))))))))))) → (((x0 = (0 : Int32) → (Z_3 0 ())) ∧ (¬ x0 = (0 : Int32) → ((x0 = (1 : Int32) → (Z_3 1 ())) ∧ (¬ x0 = (1 : Int32) → ((x0 = (2 : Int32) → (Z_3 2 ())) ∧ (¬ x0 = (2 : Int32) → ((x0 = (3 : Int32) → (Z_3 3 ())) ∧ (¬ x0 = (3 : Int32) → ((x0 = (4 : Int32) → (Z_3 4 ())) ∧ (¬ x0 = (4 : Int32) → ((x0 = (5 : Int32) → (Z_3 5 ())) ∧ (¬ x0 = (5 : Int32) → ((x0 = (6 : Int32) → (Z_3 6 ())) ∧ (¬ x0 = (6 : Int32) → (Z_3 7 ()))))))))))))))))) : v_Reader_colour_0 x0 Z_1 → v_Reader_colour_0 x0 Z_2 → v_Reader_colour_0 x0 Z_3 := h
theorem y_Reader_small_31 {I0 : Nat → Int32} {n1 : Nat} {f1 : Nat → Int32} {s0 : Int32} {Z_1 Z_2 Z_3 : Int32 → Unit → Prop} (h : (((s0 < (65 : Int32) → (zc s0 ∧ Z_1 s0 ())) ∧ (¬ s0 < (65 : Int32) → (((90 : Int32) < s0 → (zc s0 ∧ Z_1 s0 ())) ∧ (¬ (90 : Int32) < s0 → (zc ((s0 + (32 : Int32)).toUInt32 % 65536).toInt32 ∧ Z_1 ((s0 + (32 : Int32)).toUInt32 % 65536).toInt32 ())))))) → (((s0 < (65 : Int32) → (zc s0 ∧ Z_2 s0 ())) ∧ (¬ s0 < (65 : Int32) → (((90 : Int32) < s0 → (zc s0 ∧ Z_2 s0 ())) ∧ (¬ (90 : Int32) < s0 → (zc ((s0 + (32 : Int32)).toUInt32 % 65536).toInt32 ∧ Z_2 ((s0 + (32 : Int32)).toUInt32 % 65536).toInt32 ())))))) → (((s0 < (65 : Int32) → (zc s0 ∧ Z_3 s0 ())) ∧ (¬ s0 < (65 : Int32) → (((90 : Int32) < s0 → (zc s0 ∧ Z_3 s0 ())) ∧ (¬ (90 : Int32) < s0 → (zc ((s0 + (32 : Int32)).toUInt32 % 65536).toInt32 ∧ Z_3 ((s0 + (32 : Int32)).toUInt32 % 65536).toInt32 ()))))))) : v_Reader_small_31 I0 n1 f1 s0 Z_1 → v_Reader_small_31 I0 n1 f1 s0 Z_2 → v_Reader_small_31 I0 n1 f1 s0 Z_3 := h
theorem y_Reader_small_30 {I0 : Nat → Int32} {n1 : Nat} {f1 : Nat → Int32} {Z_1 Z_2 Z_3 : Int32 → Unit → Prop} (h : ((v_Reader_small_31 I0 n1 f1 (0 : Int32)  Z_1)) → ((v_Reader_small_31 I0 n1 f1 (0 : Int32)  Z_2)) → ((v_Reader_small_31 I0 n1 f1 (0 : Int32)  Z_3))) : v_Reader_small_30 I0 n1 f1 Z_1 → v_Reader_small_30 I0 n1 f1 Z_2 → v_Reader_small_30 I0 n1 f1 Z_3 := h
theorem y_Reader_small_0 {I0 : Nat → Int32} {n1 : Nat} {f1 : Nat → Int32} {x1 : Int32} {Z_1 Z_2 Z_3 : Int32 → Unit → Prop} (h : (((x1 < 0 → (v_Reader_small_30 I0 n1 f1  Z_1)) ∧ (¬ x1 < 0 → (((I0 1) ≤ x1 → (v_Reader_small_30 I0 n1 f1  Z_1)) ∧ (¬ (I0 1) ≤ x1 → (((nI n1) ≤ x1 → (v_Reader_small_30 I0 n1 f1  Z_1)) ∧ (¬ (nI n1) ≤ x1 → (vp_in x1 n1 ∧ (v_Reader_small_31 I0 n1 f1 (f1 x1.toNatClampNeg)  Z_1))))))))) → (((x1 < 0 → (v_Reader_small_30 I0 n1 f1  Z_2)) ∧ (¬ x1 < 0 → (((I0 1) ≤ x1 → (v_Reader_small_30 I0 n1 f1  Z_2)) ∧ (¬ (I0 1) ≤ x1 → (((nI n1) ≤ x1 → (v_Reader_small_30 I0 n1 f1  Z_2)) ∧ (¬ (nI n1) ≤ x1 → (vp_in x1 n1 ∧ (v_Reader_small_31 I0 n1 f1 (f1 x1.toNatClampNeg)  Z_2))))))))) → (((x1 < 0 → (v_Reader_small_30 I0 n1 f1  Z_3)) ∧ (¬ x1 < 0 → (((I0 1) ≤ x1 → (v_Reader_small_30 I0 n1 f1  Z_3)) ∧ (¬ (I0 1) ≤ x1 → (((nI n1) ≤ x1 → (v_Reader_small_30 I0 n1 f1  Z_3)) ∧ (¬ (nI n1) ≤ x1 → (vp_in x1 n1 ∧ (v_Reader_small_31 I0 n1 f1 (f1 x1.toNatClampNeg)  Z_3)))))))))) : v_Reader_small_0 I0 n1 f1 x1 Z_1 → v_Reader_small_0 I0 n1 f1 x1 Z_2 → v_Reader_small_0 I0 n1 f1 x1 Z_3 := h
theorem y_S_isLatin1_0 {x0 : Nat} {Z_1 Z_2 Z_3 : Int32 → Unit → Prop} (h : ((x0 < nZS ∧ (Z_1 (1 : Int32) ()))) → ((x0 < nZS ∧ (Z_2 (1 : Int32) ()))) → ((x0 < nZS ∧ (Z_3 (1 : Int32) ())))) : v_S_isLatin1_0 x0 Z_1 → v_S_isLatin1_0 x0 Z_2 → v_S_isLatin1_0 x0 Z_3 := h
theorem y_P_checkIndex_9 {x0 : Int32} {x1 : Int32} {Z_1 Z_2 Z_3 : Int32 → Unit → Prop} (h : (False) → (False) → (False)) : v_P_checkIndex_9 x0 x1 Z_1 → v_P_checkIndex_9 x0 x1 Z_2 → v_P_checkIndex_9 x0 x1 Z_3 := h
theorem y_P_checkIndex_0 {x0 : Int32} {x1 : Int32} {Z_1 Z_2 Z_3 : Int32 → Unit → Prop} (h : (((x0 < 0 → (v_P_checkIndex_9 x0 x1  Z_1)) ∧ (¬ x0 < 0 → ((x0 < x1 → (Z_1 x0 ())) ∧ (¬ x0 < x1 → (v_P_checkIndex_9 x0 x1  Z_1)))))) → (((x0 < 0 → (v_P_checkIndex_9 x0 x1  Z_2)) ∧ (¬ x0 < 0 → ((x0 < x1 → (Z_2 x0 ())) ∧ (¬ x0 < x1 → (v_P_checkIndex_9 x0 x1  Z_2)))))) → (((x0 < 0 → (v_P_checkIndex_9 x0 x1  Z_3)) ∧ (¬ x0 < 0 → ((x0 < x1 → (Z_3 x0 ())) ∧ (¬ x0 < x1 → (v_P_checkIndex_9 x0 x1  Z_3))))))) : v_P_checkIndex_0 x0 x1 Z_1 → v_P_checkIndex_0 x0 x1 Z_2 → v_P_checkIndex_0 x0 x1 Z_3 := h
theorem y_S_checkIndex_8 {s0 : Int32} {Z_1 Z_2 Z_3 : Unit → Prop} (h : ((Z_1 ())) → ((Z_2 ())) → ((Z_3 ()))) : v_S_checkIndex_8 s0 Z_1 → v_S_checkIndex_8 s0 Z_2 → v_S_checkIndex_8 s0 Z_3 := h
theorem y_S_checkIndex_0 {x0 : Int32} {x1 : Int32} {Z_1 Z_2 Z_3 : Unit → Prop} (h : ((v_P_checkIndex_0 x0 x1 (fun r u => (v_S_checkIndex_8 r  Z_1)))) → ((v_P_checkIndex_0 x0 x1 (fun r u => (v_S_checkIndex_8 r  Z_2)))) → ((v_P_checkIndex_0 x0 x1 (fun r u => (v_S_checkIndex_8 r  Z_3))))) : v_S_checkIndex_0 x0 x1 Z_1 → v_S_checkIndex_0 x0 x1 Z_2 → v_S_checkIndex_0 x0 x1 Z_3 := h
theorem y_SL_charAt_6 {x0 : Nat} {x1 : Int32} {Z_1 Z_2 Z_3 : Int32 → Unit → Prop} (h : ((x0 < nZS ∧ (vp_in x1 (zsn x0) ∧ (zc (((zsb x0 x1.toNatClampNeg) &&& (255 : Int32)).toUInt32 % 65536).toInt32 ∧ Z_1 (((zsb x0 x1.toNatClampNeg) &&& (255 : Int32)).toUInt32 % 65536).toInt32 ())))) → ((x0 < nZS ∧ (vp_in x1 (zsn x0) ∧ (zc (((zsb x0 x1.toNatClampNeg) &&& (255 : Int32)).toUInt32 % 65536).toInt32 ∧ Z_2 (((zsb x0 x1.toNatClampNeg) &&& (255 : Int32)).toUInt32 % 65536).toInt32 ())))) → ((x0 < nZS ∧ (vp_in x1 (zsn x0) ∧ (zc (((zsb x0 x1.toNatClampNeg) &&& (255 : Int32)).toUInt32 % 65536).toInt32 ∧ Z_3 (((zsb x0 x1.toNatClampNeg) &&& (255 : Int32)).toUInt32 % 65536).toInt32 ()))))) : v_SL_charAt_6 x0 x1 Z_1 → v_SL_charAt_6 x0 x1 Z_2 → v_SL_charAt_6 x0 x1 Z_3 := h
theorem y_SL_charAt_0 {x0 : Nat} {x1 : Int32} {Z_1 Z_2 Z_3 : Int32 → Unit → Prop} (h : ((x0 < nZS ∧ (v_S_checkIndex_0 x1 (nI (zsn x0)) (fun u => (v_SL_charAt_6 x0 x1  Z_1))))) → ((x0 < nZS ∧ (v_S_checkIndex_0 x1 (nI (zsn x0)) (fun u => (v_SL_charAt_6 x0 x1  Z_2))))) → ((x0 < nZS ∧ (v_S_checkIndex_0 x1 (nI (zsn x0)) (fun u => (v_SL_charAt_6 x0 x1  Z_3)))))) : v_SL_charAt_0 x0 x1 Z_1 → v_SL_charAt_0 x0 x1 Z_2 → v_SL_charAt_0 x0 x1 Z_3 := h
theorem y_S_charAt_15 {s0 : Int32} {Z_1 Z_2 Z_3 : Int32 → Unit → Prop} (h : ((zc s0 ∧ Z_1 s0 ())) → ((zc s0 ∧ Z_2 s0 ())) → ((zc s0 ∧ Z_3 s0 ()))) : v_S_charAt_15 s0 Z_1 → v_S_charAt_15 s0 Z_2 → v_S_charAt_15 s0 Z_3 := h
theorem y_S_charAt_4 {x0 : Nat} {x1 : Int32} {s0 : Int32} {Z_1 Z_2 Z_3 : Int32 → Unit → Prop} (h : (((s0 = 0 → (x0 < nZS ∧ False)) ∧ (¬ s0 = 0 → (x0 < nZS ∧ (v_SL_charAt_0 x0 x1 (fun r u => (v_S_charAt_15 r  Z_1))))))) → (((s0 = 0 → (x0 < nZS ∧ False)) ∧ (¬ s0 = 0 → (x0 < nZS ∧ (v_SL_charAt_0 x0 x1 (fun r u => (v_S_charAt_15 r  Z_2))))))) → (((s0 = 0 → (x0 < nZS ∧ False)) ∧ (¬ s0 = 0 → (x0 < nZS ∧ (v_SL_charAt_0 x0 x1 (fun r u => (v_S_charAt_15 r  Z_3)))))))) : v_S_charAt_4 x0 x1 s0 Z_1 → v_S_charAt_4 x0 x1 s0 Z_2 → v_S_charAt_4 x0 x1 s0 Z_3 := h
theorem y_S_charAt_0 {x0 : Nat} {x1 : Int32} {Z_1 Z_2 Z_3 : Int32 → Unit → Prop} (h : ((x0 < nZS ∧ (v_S_isLatin1_0 x0 (fun r u => (v_S_charAt_4 x0 x1 r  Z_1))))) → ((x0 < nZS ∧ (v_S_isLatin1_0 x0 (fun r u => (v_S_charAt_4 x0 x1 r  Z_2))))) → ((x0 < nZS ∧ (v_S_isLatin1_0 x0 (fun r u => (v_S_charAt_4 x0 x1 r  Z_3)))))) : v_S_charAt_0 x0 x1 Z_1 → v_S_charAt_0 x0 x1 Z_2 → v_S_charAt_0 x0 x1 Z_3 := h
theorem y_S_coder_0 {x0 : Nat} {Z_1 Z_2 Z_3 : Int32 → Unit → Prop} (h : ((x0 < nZS ∧ (Z_1 (0 : Int32) ()))) → ((x0 < nZS ∧ (Z_2 (0 : Int32) ()))) → ((x0 < nZS ∧ (Z_3 (0 : Int32) ())))) : v_S_coder_0 x0 Z_1 → v_S_coder_0 x0 Z_2 → v_S_coder_0 x0 Z_3 := h
theorem y_S_length_9 {s0 : Int32} {s1 : Int32} {Z_1 Z_2 Z_3 : Int32 → Unit → Prop} (h : ((Z_1 (s0 >>> (s1 &&& 31)) ())) → ((Z_2 (s0 >>> (s1 &&& 31)) ())) → ((Z_3 (s0 >>> (s1 &&& 31)) ()))) : v_S_length_9 s0 s1 Z_1 → v_S_length_9 s0 s1 Z_2 → v_S_length_9 s0 s1 Z_3 := h
theorem y_S_length_0 {x0 : Nat} {Z_1 Z_2 Z_3 : Int32 → Unit → Prop} (h : ((x0 < nZS ∧ (x0 < nZS ∧ (x0 < nZS ∧ (v_S_coder_0 x0 (fun r u => (v_S_length_9 (nI (zsn x0)) r  Z_1))))))) → ((x0 < nZS ∧ (x0 < nZS ∧ (x0 < nZS ∧ (v_S_coder_0 x0 (fun r u => (v_S_length_9 (nI (zsn x0)) r  Z_2))))))) → ((x0 < nZS ∧ (x0 < nZS ∧ (x0 < nZS ∧ (v_S_coder_0 x0 (fun r u => (v_S_length_9 (nI (zsn x0)) r  Z_3)))))))) : v_S_length_0 x0 Z_1 → v_S_length_0 x0 Z_2 → v_S_length_0 x0 Z_3 := h
theorem y_Reader_goesOn_22 {I0 : Nat → Int32} {n1 : Nat} {f1 : Nat → Int32} {x1 : Int32} {x2 : Nat} {x3 : Int32} {s0 : Int32} {s1 : Int32} {k2_1 k2_2 k2_3 : Int32 → Prop} {Z_1 Z_2 Z_3 : Int32 → Unit → Prop} (h : (((s0 = s1 → (k2_1 (x3 + (1 : Int32)))) ∧ (¬ s0 = s1 → (Z_1 (0 : Int32) ())))) → (((s0 = s1 → (k2_2 (x3 + (1 : Int32)))) ∧ (¬ s0 = s1 → (Z_2 (0 : Int32) ())))) → (((s0 = s1 → (k2_3 (x3 + (1 : Int32)))) ∧ (¬ s0 = s1 → (Z_3 (0 : Int32) ()))))) : v_Reader_goesOn_22 I0 n1 f1 x1 x2 x3 s0 s1 k2_1 Z_1 → v_Reader_goesOn_22 I0 n1 f1 x1 x2 x3 s0 s1 k2_2 Z_2 → v_Reader_goesOn_22 I0 n1 f1 x1 x2 x3 s0 s1 k2_3 Z_3 := h
theorem y_Reader_goesOn_17 {I0 : Nat → Int32} {n1 : Nat} {f1 : Nat → Int32} {x1 : Int32} {x2 : Nat} {x3 : Int32} {s0 : Int32} {k2_1 k2_2 k2_3 : Int32 → Prop} {Z_1 Z_2 Z_3 : Int32 → Unit → Prop} (h : ((x2 < nZS ∧ (v_S_charAt_0 x2 x3 (fun r u => (v_Reader_goesOn_22 I0 n1 f1 x1 x2 x3 s0 r k2_1 Z_1))))) → ((x2 < nZS ∧ (v_S_charAt_0 x2 x3 (fun r u => (v_Reader_goesOn_22 I0 n1 f1 x1 x2 x3 s0 r k2_2 Z_2))))) → ((x2 < nZS ∧ (v_S_charAt_0 x2 x3 (fun r u => (v_Reader_goesOn_22 I0 n1 f1 x1 x2 x3 s0 r k2_3 Z_3)))))) : v_Reader_goesOn_17 I0 n1 f1 x1 x2 x3 s0 k2_1 Z_1 → v_Reader_goesOn_17 I0 n1 f1 x1 x2 x3 s0 k2_2 Z_2 → v_Reader_goesOn_17 I0 n1 f1 x1 x2 x3 s0 k2_3 Z_3 := h
theorem y_Reader_goesOn_7 {I0 : Nat → Int32} {n1 : Nat} {f1 : Nat → Int32} {x1 : Int32} {x2 : Nat} {x3 : Int32} {s0 : Int32} {s1 : Int32} {k2_1 k2_2 k2_3 : Int32 → Prop} {Z_1 Z_2 Z_3 : Int32 → Unit → Prop} (h : (((s1 ≤ s0 → (Z_1 (1 : Int32) ())) ∧ (¬ s1 ≤ s0 → (v_Reader_small_0 I0 n1 f1 (x1 + x3) (fun r u => (v_Reader_goesOn_17 I0 n1 f1 x1 x2 x3 r k2_1 Z_1)))))) → (((s1 ≤ s0 → (Z_2 (1 : Int32) ())) ∧ (¬ s1 ≤ s0 → (v_Reader_small_0 I0 n1 f1 (x1 + x3) (fun r u => (v_Reader_goesOn_17 I0 n1 f1 x1 x2 x3 r k2_2 Z_2)))))) → (((s1 ≤ s0 → (Z_3 (1 : Int32) ())) ∧ (¬ s1 ≤ s0 → (v_Reader_small_0 I0 n1 f1 (x1 + x3) (fun r u => (v_Reader_goesOn_17 I0 n1 f1 x1 x2 x3 r k2_3 Z_3))))))) : v_Reader_goesOn_7 I0 n1 f1 x1 x2 x3 s0 s1 k2_1 Z_1 → v_Reader_goesOn_7 I0 n1 f1 x1 x2 x3 s0 s1 k2_2 Z_2 → v_Reader_goesOn_7 I0 n1 f1 x1 x2 x3 s0 s1 k2_3 Z_3 := h
theorem y_Reader_goesOn_2 {I0 : Nat → Int32} {n1 : Nat} {f1 : Nat → Int32} {x1 : Int32} {x2 : Nat} {Z_1 Z_2 Z_3 : Int32 → Unit → Prop} {N M : Nat} {x3 : Int32} (h : ((x2 < nZS ∧ (v_S_length_0 x2 (fun r u => (v_Reader_goesOn_7 I0 n1 f1 x1 x2 x3 x3 r (v_Reader_goesOn_2 I0 n1 f1 x1 x2  Z_1 N) Z_1))))) → ((x2 < nZS ∧ (v_S_length_0 x2 (fun r u => (v_Reader_goesOn_7 I0 n1 f1 x1 x2 x3 x3 r (v_Reader_goesOn_2 I0 n1 f1 x1 x2  Z_2 M) Z_2))))) → ((x2 < nZS ∧ (v_S_length_0 x2 (fun r u => (v_Reader_goesOn_7 I0 n1 f1 x1 x2 x3 x3 r (v_Reader_goesOn_2 I0 n1 f1 x1 x2  Z_3 N) Z_3)))))) : v_Reader_goesOn_2 I0 n1 f1 x1 x2 Z_1 (N + 1) x3 → v_Reader_goesOn_2 I0 n1 f1 x1 x2 Z_2 (M + 1) x3 → v_Reader_goesOn_2 I0 n1 f1 x1 x2 Z_3 (N + 1) x3 := h
theorem y_Reader_goesOn_0 {I0 : Nat → Int32} {n1 : Nat} {f1 : Nat → Int32} {x1 : Int32} {x2 : Nat} {Z_1 Z_2 Z_3 : Int32 → Unit → Prop} (h : ((∃ Nx, v_Reader_goesOn_2 I0 n1 f1 x1 x2  Z_1 Nx (0 : Int32))) → ((∃ Nx, v_Reader_goesOn_2 I0 n1 f1 x1 x2  Z_2 Nx (0 : Int32))) → ((∃ Nx, v_Reader_goesOn_2 I0 n1 f1 x1 x2  Z_3 Nx (0 : Int32)))) : v_Reader_goesOn_0 I0 n1 f1 x1 x2 Z_1 → v_Reader_goesOn_0 I0 n1 f1 x1 x2 Z_2 → v_Reader_goesOn_0 I0 n1 f1 x1 x2 Z_3 := h
theorem y_Reader_colourLength_26 {I0 : Nat → Int32} {n1 : Nat} {f1 : Nat → Int32} {s0 : Int32} {Z_1 Z_2 Z_3 : Int32 → Unit → Prop} (h : ((Z_1 s0 ())) → ((Z_2 s0 ())) → ((Z_3 s0 ()))) : v_Reader_colourLength_26 I0 n1 f1 s0 Z_1 → v_Reader_colourLength_26 I0 n1 f1 s0 Z_2 → v_Reader_colourLength_26 I0 n1 f1 s0 Z_3 := h
theorem y_Reader_colourLength_19 {I0 : Nat → Int32} {n1 : Nat} {f1 : Nat → Int32} {x1 : Int32} {x2 : Int32} {x3 : Nat} {s0 : Int32} {k2_1 k2_2 k2_3 : Int32 → Prop} {Z_1 Z_2 Z_3 : Int32 → Unit → Prop} (h : (((s0 = 0 → (k2_1 (x2 + (1 : Int32)))) ∧ (¬ s0 = 0 → (x3 < nZS ∧ (v_S_length_0 x3 (fun r u => (v_Reader_colourLength_26 I0 n1 f1 r  Z_1))))))) → (((s0 = 0 → (k2_2 (x2 + (1 : Int32)))) ∧ (¬ s0 = 0 → (x3 < nZS ∧ (v_S_length_0 x3 (fun r u => (v_Reader_colourLength_26 I0 n1 f1 r  Z_2))))))) → (((s0 = 0 → (k2_3 (x2 + (1 : Int32)))) ∧ (¬ s0 = 0 → (x3 < nZS ∧ (v_S_length_0 x3 (fun r u => (v_Reader_colourLength_26 I0 n1 f1 r  Z_3)))))))) : v_Reader_colourLength_19 I0 n1 f1 x1 x2 x3 s0 k2_1 Z_1 → v_Reader_colourLength_19 I0 n1 f1 x1 x2 x3 s0 k2_2 Z_2 → v_Reader_colourLength_19 I0 n1 f1 x1 x2 x3 s0 k2_3 Z_3 := h
theorem y_Reader_colourLength_12 {I0 : Nat → Int32} {n1 : Nat} {f1 : Nat → Int32} {x1 : Int32} {x2 : Int32} {s0 : Nat} {k2_1 k2_2 k2_3 : Int32 → Prop} {Z_1 Z_2 Z_3 : Int32 → Unit → Prop} (h : ((v_Reader_goesOn_0 I0 n1 f1 x1 s0 (fun r u => (v_Reader_colourLength_19 I0 n1 f1 x1 x2 s0 r k2_1 Z_1)))) → ((v_Reader_goesOn_0 I0 n1 f1 x1 s0 (fun r u => (v_Reader_colourLength_19 I0 n1 f1 x1 x2 s0 r k2_2 Z_2)))) → ((v_Reader_goesOn_0 I0 n1 f1 x1 s0 (fun r u => (v_Reader_colourLength_19 I0 n1 f1 x1 x2 s0 r k2_3 Z_3))))) : v_Reader_colourLength_12 I0 n1 f1 x1 x2 s0 k2_1 Z_1 → v_Reader_colourLength_12 I0 n1 f1 x1 x2 s0 k2_2 Z_2 → v_Reader_colourLength_12 I0 n1 f1 x1 x2 s0 k2_3 Z_3 := h
theorem y_Reader_colourLength_2 {I0 : Nat → Int32} {n1 : Nat} {f1 : Nat → Int32} {x1 : Int32} {Z_1 Z_2 Z_3 : Int32 → Unit → Prop} {N M : Nat} {x2 : Int32} (h : ((((8 : Int32) ≤ x2 → (Z_1 (0 : Int32) ())) ∧ (¬ (8 : Int32) ≤ x2 → (v_Reader_colour_0 x2 (fun r u => (v_Reader_colourLength_12 I0 n1 f1 x1 x2 r (v_Reader_colourLength_2 I0 n1 f1 x1  Z_1 N) Z_1)))))) → ((((8 : Int32) ≤ x2 → (Z_2 (0 : Int32) ())) ∧ (¬ (8 : Int32) ≤ x2 → (v_Reader_colour_0 x2 (fun r u => (v_Reader_colourLength_12 I0 n1 f1 x1 x2 r (v_Reader_colourLength_2 I0 n1 f1 x1  Z_2 M) Z_2)))))) → ((((8 : Int32) ≤ x2 → (Z_3 (0 : Int32) ())) ∧ (¬ (8 : Int32) ≤ x2 → (v_Reader_colour_0 x2 (fun r u => (v_Reader_colourLength_12 I0 n1 f1 x1 x2 r (v_Reader_colourLength_2 I0 n1 f1 x1  Z_3 N) Z_3))))))) : v_Reader_colourLength_2 I0 n1 f1 x1 Z_1 (N + 1) x2 → v_Reader_colourLength_2 I0 n1 f1 x1 Z_2 (M + 1) x2 → v_Reader_colourLength_2 I0 n1 f1 x1 Z_3 (N + 1) x2 := h
theorem y_Reader_colourLength_0 {I0 : Nat → Int32} {n1 : Nat} {f1 : Nat → Int32} {x1 : Int32} {Z_1 Z_2 Z_3 : Int32 → Unit → Prop} (h : ((∃ Nx, v_Reader_colourLength_2 I0 n1 f1 x1  Z_1 Nx (0 : Int32))) → ((∃ Nx, v_Reader_colourLength_2 I0 n1 f1 x1  Z_2 Nx (0 : Int32))) → ((∃ Nx, v_Reader_colourLength_2 I0 n1 f1 x1  Z_3 Nx (0 : Int32)))) : v_Reader_colourLength_0 I0 n1 f1 x1 Z_1 → v_Reader_colourLength_0 I0 n1 f1 x1 Z_2 → v_Reader_colourLength_0 I0 n1 f1 x1 Z_3 := h
theorem y_SL_canEncode_0 {x0 : Int32} {Z_1 Z_2 Z_3 : Int32 → Unit → Prop} (h : (((x0 < 0 → (Z_1 (0 : Int32) ())) ∧ (¬ x0 < 0 → (((255 : Int32) < x0 → (Z_1 (0 : Int32) ())) ∧ (¬ (255 : Int32) < x0 → (Z_1 (1 : Int32) ())))))) → (((x0 < 0 → (Z_2 (0 : Int32) ())) ∧ (¬ x0 < 0 → (((255 : Int32) < x0 → (Z_2 (0 : Int32) ())) ∧ (¬ (255 : Int32) < x0 → (Z_2 (1 : Int32) ())))))) → (((x0 < 0 → (Z_3 (0 : Int32) ())) ∧ (¬ x0 < 0 → (((255 : Int32) < x0 → (Z_3 (0 : Int32) ())) ∧ (¬ (255 : Int32) < x0 → (Z_3 (1 : Int32) ()))))))) : v_SL_canEncode_0 x0 Z_1 → v_SL_canEncode_0 x0 Z_2 → v_SL_canEncode_0 x0 Z_3 := h
theorem y_SL_indexOfChar_7 {x0 : Nat} {x3 : Int32} {x4 : Int32} {Z_1 Z_2 Z_3 : Int32 → Unit → Prop} {N M : Nat} {x5 : Int32} (h : (((x3 ≤ x5 → (Z_1 (-1 : Int32) ())) ∧ (¬ x3 ≤ x5 → (x0 < nZS ∧ (vp_in x5 (zsn x0) ∧ ((¬ (zsb x0 x5.toNatClampNeg) = x4 → ((v_SL_indexOfChar_7 x0 x3 x4  Z_1 N) (x5 + (1 : Int32)))) ∧ ((zsb x0 x5.toNatClampNeg) = x4 → (Z_1 x5 ())))))))) → (((x3 ≤ x5 → (Z_2 (-1 : Int32) ())) ∧ (¬ x3 ≤ x5 → (x0 < nZS ∧ (vp_in x5 (zsn x0) ∧ ((¬ (zsb x0 x5.toNatClampNeg) = x4 → ((v_SL_indexOfChar_7 x0 x3 x4  Z_2 M) (x5 + (1 : Int32)))) ∧ ((zsb x0 x5.toNatClampNeg) = x4 → (Z_2 x5 ())))))))) → (((x3 ≤ x5 → (Z_3 (-1 : Int32) ())) ∧ (¬ x3 ≤ x5 → (x0 < nZS ∧ (vp_in x5 (zsn x0) ∧ ((¬ (zsb x0 x5.toNatClampNeg) = x4 → ((v_SL_indexOfChar_7 x0 x3 x4  Z_3 N) (x5 + (1 : Int32)))) ∧ ((zsb x0 x5.toNatClampNeg) = x4 → (Z_3 x5 ()))))))))) : v_SL_indexOfChar_7 x0 x3 x4 Z_1 (N + 1) x5 → v_SL_indexOfChar_7 x0 x3 x4 Z_2 (M + 1) x5 → v_SL_indexOfChar_7 x0 x3 x4 Z_3 (N + 1) x5 := h
theorem y_SL_indexOfChar_0 {x0 : Nat} {x1 : Int32} {x2 : Int32} {x3 : Int32} {Z_1 Z_2 Z_3 : Int32 → Unit → Prop} (h : ((∃ Nx, v_SL_indexOfChar_7 x0 x3 x1.toInt8.toInt32  Z_1 Nx x2)) → ((∃ Nx, v_SL_indexOfChar_7 x0 x3 x1.toInt8.toInt32  Z_2 Nx x2)) → ((∃ Nx, v_SL_indexOfChar_7 x0 x3 x1.toInt8.toInt32  Z_3 Nx x2))) : v_SL_indexOfChar_0 x0 x1 x2 x3 Z_1 → v_SL_indexOfChar_0 x0 x1 x2 x3 Z_2 → v_SL_indexOfChar_0 x0 x1 x2 x3 Z_3 := h
theorem y_SL_indexOf_36 {s0 : Int32} {Z_1 Z_2 Z_3 : Int32 → Unit → Prop} (h : ((Z_1 s0 ())) → ((Z_2 s0 ())) → ((Z_3 s0 ()))) : v_SL_indexOf_36 s0 Z_1 → v_SL_indexOf_36 s0 Z_2 → v_SL_indexOf_36 s0 Z_3 := h
theorem y_SL_indexOf_4 {x0 : Nat} {x1 : Int32} {x2 : Int32} {x3 : Int32} {s0 : Int32} {Z_1 Z_2 Z_3 : Int32 → Unit → Prop} (h : (((¬ s0 = 0 → (x0 < nZS ∧ (((zmax x2 (0 : Int32)) < (zmin x3 (nI (zsn x0))) → (v_SL_indexOfChar_0 x0 x1 (zmax x2 (0 : Int32)) (zmin x3 (nI (zsn x0))) (fun r u => (v_SL_indexOf_36 r  Z_1)))) ∧ (¬ (zmax x2 (0 : Int32)) < (zmin x3 (nI (zsn x0))) → (Z_1 (-1 : Int32) ()))))) ∧ (s0 = 0 → (Z_1 (-1 : Int32) ())))) → (((¬ s0 = 0 → (x0 < nZS ∧ (((zmax x2 (0 : Int32)) < (zmin x3 (nI (zsn x0))) → (v_SL_indexOfChar_0 x0 x1 (zmax x2 (0 : Int32)) (zmin x3 (nI (zsn x0))) (fun r u => (v_SL_indexOf_36 r  Z_2)))) ∧ (¬ (zmax x2 (0 : Int32)) < (zmin x3 (nI (zsn x0))) → (Z_2 (-1 : Int32) ()))))) ∧ (s0 = 0 → (Z_2 (-1 : Int32) ())))) → (((¬ s0 = 0 → (x0 < nZS ∧ (((zmax x2 (0 : Int32)) < (zmin x3 (nI (zsn x0))) → (v_SL_indexOfChar_0 x0 x1 (zmax x2 (0 : Int32)) (zmin x3 (nI (zsn x0))) (fun r u => (v_SL_indexOf_36 r  Z_3)))) ∧ (¬ (zmax x2 (0 : Int32)) < (zmin x3 (nI (zsn x0))) → (Z_3 (-1 : Int32) ()))))) ∧ (s0 = 0 → (Z_3 (-1 : Int32) ()))))) : v_SL_indexOf_4 x0 x1 x2 x3 s0 Z_1 → v_SL_indexOf_4 x0 x1 x2 x3 s0 Z_2 → v_SL_indexOf_4 x0 x1 x2 x3 s0 Z_3 := h
theorem y_SL_indexOf_0 {x0 : Nat} {x1 : Int32} {x2 : Int32} {x3 : Int32} {Z_1 Z_2 Z_3 : Int32 → Unit → Prop} (h : ((v_SL_canEncode_0 x1 (fun r u => (v_SL_indexOf_4 x0 x1 x2 x3 r  Z_1)))) → ((v_SL_canEncode_0 x1 (fun r u => (v_SL_indexOf_4 x0 x1 x2 x3 r  Z_2)))) → ((v_SL_canEncode_0 x1 (fun r u => (v_SL_indexOf_4 x0 x1 x2 x3 r  Z_3))))) : v_SL_indexOf_0 x0 x1 x2 x3 Z_1 → v_SL_indexOf_0 x0 x1 x2 x3 Z_2 → v_SL_indexOf_0 x0 x1 x2 x3 Z_3 := h
theorem y_S_indexOf1_20 {s0 : Int32} {Z_1 Z_2 Z_3 : Int32 → Unit → Prop} (h : ((Z_1 s0 ())) → ((Z_2 s0 ())) → ((Z_3 s0 ()))) : v_S_indexOf1_20 s0 Z_1 → v_S_indexOf1_20 s0 Z_2 → v_S_indexOf1_20 s0 Z_3 := h
theorem y_S_indexOf1_17 {s0 : Nat} {s1 : Int32} {s2 : Int32} {s3 : Int32} {Z_1 Z_2 Z_3 : Int32 → Unit → Prop} (h : ((v_SL_indexOf_0 s0 s1 s2 s3 (fun r u => (v_S_indexOf1_20 r  Z_1)))) → ((v_SL_indexOf_0 s0 s1 s2 s3 (fun r u => (v_S_indexOf1_20 r  Z_2)))) → ((v_SL_indexOf_0 s0 s1 s2 s3 (fun r u => (v_S_indexOf1_20 r  Z_3))))) : v_S_indexOf1_17 s0 s1 s2 s3 Z_1 → v_S_indexOf1_17 s0 s1 s2 s3 Z_2 → v_S_indexOf1_17 s0 s1 s2 s3 Z_3 := h
theorem y_S_indexOf1_33 {s0 : Nat} {s1 : Int32} {s2 : Int32} {s3 : Int32} {Z_1 Z_2 Z_3 : Int32 → Unit → Prop} (h : (False) → (False) → (False)) : v_S_indexOf1_33 s0 s1 s2 s3 Z_1 → v_S_indexOf1_33 s0 s1 s2 s3 Z_2 → v_S_indexOf1_33 s0 s1 s2 s3 Z_3 := h
theorem y_S_indexOf1_4 {x0 : Nat} {x1 : Int32} {x2 : Int32} {s0 : Int32} {Z_1 Z_2 Z_3 : Int32 → Unit → Prop} (h : (((s0 = 0 → (x0 < nZS ∧ (x0 < nZS ∧ (v_S_length_0 x0 (fun r u => (v_S_indexOf1_33 x0 x1 x2 r  Z_1)))))) ∧ (¬ s0 = 0 → (x0 < nZS ∧ (x0 < nZS ∧ (v_S_length_0 x0 (fun r u => (v_S_indexOf1_17 x0 x1 x2 r  Z_1)))))))) → (((s0 = 0 → (x0 < nZS ∧ (x0 < nZS ∧ (v_S_length_0 x0 (fun r u => (v_S_indexOf1_33 x0 x1 x2 r  Z_2)))))) ∧ (¬ s0 = 0 → (x0 < nZS ∧ (x0 < nZS ∧ (v_S_length_0 x0 (fun r u => (v_S_indexOf1_17 x0 x1 x2 r  Z_2)))))))) → (((s0 = 0 → (x0 < nZS ∧ (x0 < nZS ∧ (v_S_length_0 x0 (fun r u => (v_S_indexOf1_33 x0 x1 x2 r  Z_3)))))) ∧ (¬ s0 = 0 → (x0 < nZS ∧ (x0 < nZS ∧ (v_S_length_0 x0 (fun r u => (v_S_indexOf1_17 x0 x1 x2 r  Z_3))))))))) : v_S_indexOf1_4 x0 x1 x2 s0 Z_1 → v_S_indexOf1_4 x0 x1 x2 s0 Z_2 → v_S_indexOf1_4 x0 x1 x2 s0 Z_3 := h
theorem y_S_indexOf1_0 {x0 : Nat} {x1 : Int32} {x2 : Int32} {Z_1 Z_2 Z_3 : Int32 → Unit → Prop} (h : ((x0 < nZS ∧ (v_S_isLatin1_0 x0 (fun r u => (v_S_indexOf1_4 x0 x1 x2 r  Z_1))))) → ((x0 < nZS ∧ (v_S_isLatin1_0 x0 (fun r u => (v_S_indexOf1_4 x0 x1 x2 r  Z_2))))) → ((x0 < nZS ∧ (v_S_isLatin1_0 x0 (fun r u => (v_S_indexOf1_4 x0 x1 x2 r  Z_3)))))) : v_S_indexOf1_0 x0 x1 x2 Z_1 → v_S_indexOf1_0 x0 x1 x2 Z_2 → v_S_indexOf1_0 x0 x1 x2 Z_3 := h
theorem y_S_indexOf0_6 {s0 : Int32} {Z_1 Z_2 Z_3 : Int32 → Unit → Prop} (h : ((Z_1 s0 ())) → ((Z_2 s0 ())) → ((Z_3 s0 ()))) : v_S_indexOf0_6 s0 Z_1 → v_S_indexOf0_6 s0 Z_2 → v_S_indexOf0_6 s0 Z_3 := h
theorem y_S_indexOf0_0 {x0 : Nat} {x1 : Int32} {Z_1 Z_2 Z_3 : Int32 → Unit → Prop} (h : ((x0 < nZS ∧ (v_S_indexOf1_0 x0 x1 (0 : Int32) (fun r u => (v_S_indexOf0_6 r  Z_1))))) → ((x0 < nZS ∧ (v_S_indexOf1_0 x0 x1 (0 : Int32) (fun r u => (v_S_indexOf0_6 r  Z_2))))) → ((x0 < nZS ∧ (v_S_indexOf1_0 x0 x1 (0 : Int32) (fun r u => (v_S_indexOf0_6 r  Z_3)))))) : v_S_indexOf0_0 x0 x1 Z_1 → v_S_indexOf0_0 x0 x1 Z_2 → v_S_indexOf0_0 x0 x1 Z_3 := h
theorem y_Reader_isOwnLiteral_11 {s0 : Int32} {Z_1 Z_2 Z_3 : Int32 → Unit → Prop} (h : (((s0 < 0 → (Z_1 (0 : Int32) ())) ∧ (¬ s0 < 0 → (Z_1 (1 : Int32) ())))) → (((s0 < 0 → (Z_2 (0 : Int32) ())) ∧ (¬ s0 < 0 → (Z_2 (1 : Int32) ())))) → (((s0 < 0 → (Z_3 (0 : Int32) ())) ∧ (¬ s0 < 0 → (Z_3 (1 : Int32) ()))))) : v_Reader_isOwnLiteral_11 s0 Z_1 → v_Reader_isOwnLiteral_11 s0 Z_2 → v_Reader_isOwnLiteral_11 s0 Z_3 := h
theorem y_Reader_isOwnLiteral_0 {x0 : Int32} {Z_1 Z_2 Z_3 : Int32 → Unit → Prop} (h : (((x0 = 0 → (Z_1 (0 : Int32) ())) ∧ (¬ x0 = 0 → (8 < nZS ∧ (v_S_indexOf0_0 8 x0 (fun r u => (v_Reader_isOwnLiteral_11 r  Z_1))))))) → (((x0 = 0 → (Z_2 (0 : Int32) ())) ∧ (¬ x0 = 0 → (8 < nZS ∧ (v_S_indexOf0_0 8 x0 (fun r u => (v_Reader_isOwnLiteral_11 r  Z_2))))))) → (((x0 = 0 → (Z_3 (0 : Int32) ())) ∧ (¬ x0 = 0 → (8 < nZS ∧ (v_S_indexOf0_0 8 x0 (fun r u => (v_Reader_isOwnLiteral_11 r  Z_3)))))))) : v_Reader_isOwnLiteral_0 x0 Z_1 → v_Reader_isOwnLiteral_0 x0 Z_2 → v_Reader_isOwnLiteral_0 x0 Z_3 := h
theorem y_Reader_sign_0 {I0 : Nat → Int32} {n1 : Nat} {f1 : Nat → Int32} {x1 : Int32} {Z_1 Z_2 Z_3 : Int32 → Unit → Prop} (h : (((x1 < 0 → (Z_1 (0 : Int32) ())) ∧ (¬ x1 < 0 → (((I0 1) ≤ x1 → (Z_1 (0 : Int32) ())) ∧ (¬ (I0 1) ≤ x1 → (((nI n1) ≤ x1 → (Z_1 (0 : Int32) ())) ∧ (¬ (nI n1) ≤ x1 → (vp_in x1 n1 ∧ (zc (f1 x1.toNatClampNeg) ∧ Z_1 (f1 x1.toNatClampNeg) ()))))))))) → (((x1 < 0 → (Z_2 (0 : Int32) ())) ∧ (¬ x1 < 0 → (((I0 1) ≤ x1 → (Z_2 (0 : Int32) ())) ∧ (¬ (I0 1) ≤ x1 → (((nI n1) ≤ x1 → (Z_2 (0 : Int32) ())) ∧ (¬ (nI n1) ≤ x1 → (vp_in x1 n1 ∧ (zc (f1 x1.toNatClampNeg) ∧ Z_2 (f1 x1.toNatClampNeg) ()))))))))) → (((x1 < 0 → (Z_3 (0 : Int32) ())) ∧ (¬ x1 < 0 → (((I0 1) ≤ x1 → (Z_3 (0 : Int32) ())) ∧ (¬ (I0 1) ≤ x1 → (((nI n1) ≤ x1 → (Z_3 (0 : Int32) ())) ∧ (¬ (nI n1) ≤ x1 → (vp_in x1 n1 ∧ (zc (f1 x1.toNatClampNeg) ∧ Z_3 (f1 x1.toNatClampNeg) ())))))))))) : v_Reader_sign_0 I0 n1 f1 x1 Z_1 → v_Reader_sign_0 I0 n1 f1 x1 Z_2 → v_Reader_sign_0 I0 n1 f1 x1 Z_3 := h
theorem y_Reader_quotesLength_17 {I0 : Nat → Int32} {n1 : Nat} {f1 : Nat → Int32} {x1 : Int32} {x2 : Int32} {s0 : Int32} {k4_1 k4_2 k4_3 : Int32 → Prop} {Z_1 Z_2 Z_3 : Int32 → Unit → Prop} (h : (((¬ s0 = (34 : Int32) → (k4_1 (x2 + (1 : Int32)))) ∧ (s0 = (34 : Int32) → (Z_1 ((x2 - x1) + (1 : Int32)) ())))) → (((¬ s0 = (34 : Int32) → (k4_2 (x2 + (1 : Int32)))) ∧ (s0 = (34 : Int32) → (Z_2 ((x2 - x1) + (1 : Int32)) ())))) → (((¬ s0 = (34 : Int32) → (k4_3 (x2 + (1 : Int32)))) ∧ (s0 = (34 : Int32) → (Z_3 ((x2 - x1) + (1 : Int32)) ()))))) : v_Reader_quotesLength_17 I0 n1 f1 x1 x2 s0 k4_1 Z_1 → v_Reader_quotesLength_17 I0 n1 f1 x1 x2 s0 k4_2 Z_2 → v_Reader_quotesLength_17 I0 n1 f1 x1 x2 s0 k4_3 Z_3 := h
theorem y_Reader_quotesLength_4 {I0 : Nat → Int32} {n1 : Nat} {f1 : Nat → Int32} {x1 : Int32} {Z_1 Z_2 Z_3 : Int32 → Unit → Prop} {N M : Nat} {x2 : Int32} (h : ((((I0 1) ≤ x2 → (Z_1 (0 : Int32) ())) ∧ (¬ (I0 1) ≤ x2 → (v_Reader_sign_0 I0 n1 f1 x2 (fun r u => (v_Reader_quotesLength_17 I0 n1 f1 x1 x2 r (v_Reader_quotesLength_4 I0 n1 f1 x1  Z_1 N) Z_1)))))) → ((((I0 1) ≤ x2 → (Z_2 (0 : Int32) ())) ∧ (¬ (I0 1) ≤ x2 → (v_Reader_sign_0 I0 n1 f1 x2 (fun r u => (v_Reader_quotesLength_17 I0 n1 f1 x1 x2 r (v_Reader_quotesLength_4 I0 n1 f1 x1  Z_2 M) Z_2)))))) → ((((I0 1) ≤ x2 → (Z_3 (0 : Int32) ())) ∧ (¬ (I0 1) ≤ x2 → (v_Reader_sign_0 I0 n1 f1 x2 (fun r u => (v_Reader_quotesLength_17 I0 n1 f1 x1 x2 r (v_Reader_quotesLength_4 I0 n1 f1 x1  Z_3 N) Z_3))))))) : v_Reader_quotesLength_4 I0 n1 f1 x1 Z_1 (N + 1) x2 → v_Reader_quotesLength_4 I0 n1 f1 x1 Z_2 (M + 1) x2 → v_Reader_quotesLength_4 I0 n1 f1 x1 Z_3 (N + 1) x2 := h
theorem y_Reader_quotesLength_0 {I0 : Nat → Int32} {n1 : Nat} {f1 : Nat → Int32} {x1 : Int32} {Z_1 Z_2 Z_3 : Int32 → Unit → Prop} (h : ((∃ Nx, v_Reader_quotesLength_4 I0 n1 f1 x1  Z_1 Nx (x1 + (1 : Int32)))) → ((∃ Nx, v_Reader_quotesLength_4 I0 n1 f1 x1  Z_2 Nx (x1 + (1 : Int32)))) → ((∃ Nx, v_Reader_quotesLength_4 I0 n1 f1 x1  Z_3 Nx (x1 + (1 : Int32))))) : v_Reader_quotesLength_0 I0 n1 f1 x1 Z_1 → v_Reader_quotesLength_0 I0 n1 f1 x1 Z_2 → v_Reader_quotesLength_0 I0 n1 f1 x1 Z_3 := h
theorem y_Reader_commonLength_61 {I0 : Nat → Int32} {n1 : Nat} {f1 : Nat → Int32} {s0 : Int32} {Z_1 Z_2 Z_3 : Int32 → Unit → Prop} (h : ((Z_1 s0 ())) → ((Z_2 s0 ())) → ((Z_3 s0 ()))) : v_Reader_commonLength_61 I0 n1 f1 s0 Z_1 → v_Reader_commonLength_61 I0 n1 f1 s0 Z_2 → v_Reader_commonLength_61 I0 n1 f1 s0 Z_3 := h
theorem y_Reader_commonLength_83 {I0 : Nat → Int32} {n1 : Nat} {f1 : Nat → Int32} {s0 : Int32} {Z_1 Z_2 Z_3 : Int32 → Unit → Prop} (h : ((Z_1 s0 ())) → ((Z_2 s0 ())) → ((Z_3 s0 ()))) : v_Reader_commonLength_83 I0 n1 f1 s0 Z_1 → v_Reader_commonLength_83 I0 n1 f1 s0 Z_2 → v_Reader_commonLength_83 I0 n1 f1 s0 Z_3 := h
theorem y_Reader_commonLength_88 {I0 : Nat → Int32} {n1 : Nat} {f1 : Nat → Int32} {s0 : Int32} {Z_1 Z_2 Z_3 : Int32 → Unit → Prop} (h : (((s0 = 0 → (Z_1 (0 : Int32) ())) ∧ (¬ s0 = 0 → (Z_1 (1 : Int32) ())))) → (((s0 = 0 → (Z_2 (0 : Int32) ())) ∧ (¬ s0 = 0 → (Z_2 (1 : Int32) ())))) → (((s0 = 0 → (Z_3 (0 : Int32) ())) ∧ (¬ s0 = 0 → (Z_3 (1 : Int32) ()))))) : v_Reader_commonLength_88 I0 n1 f1 s0 Z_1 → v_Reader_commonLength_88 I0 n1 f1 s0 Z_2 → v_Reader_commonLength_88 I0 n1 f1 s0 Z_3 := h
theorem y_Reader_commonLength_5 {I0 : Nat → Int32} {n1 : Nat} {f1 : Nat → Int32} {x1 : Int32} {s0 : Int32} {Z_1 Z_2 Z_3 : Int32 → Unit → Prop} (h : (((s0 = (34 : Int32) → (v_Reader_quotesLength_0 I0 n1 f1 x1 (fun r u => (v_Reader_commonLength_61 I0 n1 f1 r  Z_1)))) ∧ (¬ s0 = (34 : Int32) → ((s0 = (42 : Int32) → (((I0 1) ≤ (x1 + (1 : Int32)) → (Z_1 (0 : Int32) ())) ∧ (¬ (I0 1) ≤ (x1 + (1 : Int32)) → (Z_1 (2 : Int32) ())))) ∧ (¬ s0 = (42 : Int32) → ((s0 = (91 : Int32) → (v_Reader_colourLength_0 I0 n1 f1 x1 (fun r u => (v_Reader_commonLength_83 I0 n1 f1 r  Z_1)))) ∧ (¬ s0 = (91 : Int32) → ((s0 = (92 : Int32) → (((I0 1) ≤ (x1 + (1 : Int32)) → (Z_1 (0 : Int32) ())) ∧ (¬ (I0 1) ≤ (x1 + (1 : Int32)) → (Z_1 (2 : Int32) ())))) ∧ (¬ s0 = (92 : Int32) → ((s0 = (95 : Int32) → (((I0 1) ≤ (x1 + (1 : Int32)) → (Z_1 (0 : Int32) ())) ∧ (¬ (I0 1) ≤ (x1 + (1 : Int32)) → (Z_1 (2 : Int32) ())))) ∧ (¬ s0 = (95 : Int32) → (v_Reader_isOwnLiteral_0 s0 (fun r u => (v_Reader_commonLength_88 I0 n1 f1 r  Z_1)))))))))))))) → (((s0 = (34 : Int32) → (v_Reader_quotesLength_0 I0 n1 f1 x1 (fun r u => (v_Reader_commonLength_61 I0 n1 f1 r  Z_2)))) ∧ (¬ s0 = (34 : Int32) → ((s0 = (42 : Int32) → (((I0 1) ≤ (x1 + (1 : Int32)) → (Z_2 (0 : Int32) ())) ∧ (¬ (I0 1) ≤ (x1 + (1 : Int32)) → (Z_2 (2 : Int32) ())))) ∧ (¬ s0 = (42 : Int32) → ((s0 = (91 : Int32) → (v_Reader_colourLength_0 I0 n1 f1 x1 (fun r u => (v_Reader_commonLength_83 I0 n1 f1 r  Z_2)))) ∧ (¬ s0 = (91 : Int32) → ((s0 = (92 : Int32) → (((I0 1) ≤ (x1 + (1 : Int32)) → (Z_2 (0 : Int32) ())) ∧ (¬ (I0 1) ≤ (x1 + (1 : Int32)) → (Z_2 (2 : Int32) ())))) ∧ (¬ s0 = (92 : Int32) → ((s0 = (95 : Int32) → (((I0 1) ≤ (x1 + (1 : Int32)) → (Z_2 (0 : Int32) ())) ∧ (¬ (I0 1) ≤ (x1 + (1 : Int32)) → (Z_2 (2 : Int32) ())))) ∧ (¬ s0 = (95 : Int32) → (v_Reader_isOwnLiteral_0 s0 (fun r u => (v_Reader_commonLength_88 I0 n1 f1 r  Z_2)))))))))))))) → (((s0 = (34 : Int32) → (v_Reader_quotesLength_0 I0 n1 f1 x1 (fun r u => (v_Reader_commonLength_61 I0 n1 f1 r  Z_3)))) ∧ (¬ s0 = (34 : Int32) → ((s0 = (42 : Int32) → (((I0 1) ≤ (x1 + (1 : Int32)) → (Z_3 (0 : Int32) ())) ∧ (¬ (I0 1) ≤ (x1 + (1 : Int32)) → (Z_3 (2 : Int32) ())))) ∧ (¬ s0 = (42 : Int32) → ((s0 = (91 : Int32) → (v_Reader_colourLength_0 I0 n1 f1 x1 (fun r u => (v_Reader_commonLength_83 I0 n1 f1 r  Z_3)))) ∧ (¬ s0 = (91 : Int32) → ((s0 = (92 : Int32) → (((I0 1) ≤ (x1 + (1 : Int32)) → (Z_3 (0 : Int32) ())) ∧ (¬ (I0 1) ≤ (x1 + (1 : Int32)) → (Z_3 (2 : Int32) ())))) ∧ (¬ s0 = (92 : Int32) → ((s0 = (95 : Int32) → (((I0 1) ≤ (x1 + (1 : Int32)) → (Z_3 (0 : Int32) ())) ∧ (¬ (I0 1) ≤ (x1 + (1 : Int32)) → (Z_3 (2 : Int32) ())))) ∧ (¬ s0 = (95 : Int32) → (v_Reader_isOwnLiteral_0 s0 (fun r u => (v_Reader_commonLength_88 I0 n1 f1 r  Z_3))))))))))))))) : v_Reader_commonLength_5 I0 n1 f1 x1 s0 Z_1 → v_Reader_commonLength_5 I0 n1 f1 x1 s0 Z_2 → v_Reader_commonLength_5 I0 n1 f1 x1 s0 Z_3 := h
theorem y_Reader_commonLength_0 {I0 : Nat → Int32} {n1 : Nat} {f1 : Nat → Int32} {x1 : Int32} {Z_1 Z_2 Z_3 : Int32 → Unit → Prop} (h : ((v_Reader_sign_0 I0 n1 f1 x1 (fun r u => (v_Reader_commonLength_5 I0 n1 f1 x1 r  Z_1)))) → ((v_Reader_sign_0 I0 n1 f1 x1 (fun r u => (v_Reader_commonLength_5 I0 n1 f1 x1 r  Z_2)))) → ((v_Reader_sign_0 I0 n1 f1 x1 (fun r u => (v_Reader_commonLength_5 I0 n1 f1 x1 r  Z_3))))) : v_Reader_commonLength_0 I0 n1 f1 x1 Z_1 → v_Reader_commonLength_0 I0 n1 f1 x1 Z_2 → v_Reader_commonLength_0 I0 n1 f1 x1 Z_3 := h
theorem y_Reader_rowLength_20 {I0 : Nat → Int32} {n1 : Nat} {f1 : Nat → Int32} {x1 : Int32} {x2 : Int32} {s0 : Int32} {s1 : Int32} {k2_1 k2_2 k2_3 : Int32 → Prop} {Z_1 Z_2 Z_3 : Int32 → Unit → Prop} (h : (((¬ s0 = s1 → (Z_1 x2 ())) ∧ (s0 = s1 → (k2_1 (x2 + (1 : Int32)))))) → (((¬ s0 = s1 → (Z_2 x2 ())) ∧ (s0 = s1 → (k2_2 (x2 + (1 : Int32)))))) → (((¬ s0 = s1 → (Z_3 x2 ())) ∧ (s0 = s1 → (k2_3 (x2 + (1 : Int32))))))) : v_Reader_rowLength_20 I0 n1 f1 x1 x2 s0 s1 k2_1 Z_1 → v_Reader_rowLength_20 I0 n1 f1 x1 x2 s0 s1 k2_2 Z_2 → v_Reader_rowLength_20 I0 n1 f1 x1 x2 s0 s1 k2_3 Z_3 := h
theorem y_Reader_rowLength_15 {I0 : Nat → Int32} {n1 : Nat} {f1 : Nat → Int32} {x1 : Int32} {x2 : Int32} {s0 : Int32} {k2_1 k2_2 k2_3 : Int32 → Prop} {Z_1 Z_2 Z_3 : Int32 → Unit → Prop} (h : ((v_Reader_small_0 I0 n1 f1 x1 (fun r u => (v_Reader_rowLength_20 I0 n1 f1 x1 x2 s0 r k2_1 Z_1)))) → ((v_Reader_small_0 I0 n1 f1 x1 (fun r u => (v_Reader_rowLength_20 I0 n1 f1 x1 x2 s0 r k2_2 Z_2)))) → ((v_Reader_small_0 I0 n1 f1 x1 (fun r u => (v_Reader_rowLength_20 I0 n1 f1 x1 x2 s0 r k2_3 Z_3))))) : v_Reader_rowLength_15 I0 n1 f1 x1 x2 s0 k2_1 Z_1 → v_Reader_rowLength_15 I0 n1 f1 x1 x2 s0 k2_2 Z_2 → v_Reader_rowLength_15 I0 n1 f1 x1 x2 s0 k2_3 Z_3 := h
theorem y_Reader_rowLength_2 {I0 : Nat → Int32} {n1 : Nat} {f1 : Nat → Int32} {x1 : Int32} {Z_1 Z_2 Z_3 : Int32 → Unit → Prop} {N M : Nat} {x2 : Int32} (h : ((((64 : Int32) ≤ x2 → (Z_1 x2 ())) ∧ (¬ (64 : Int32) ≤ x2 → (v_Reader_small_0 I0 n1 f1 (x1 + x2) (fun r u => (v_Reader_rowLength_15 I0 n1 f1 x1 x2 r (v_Reader_rowLength_2 I0 n1 f1 x1  Z_1 N) Z_1)))))) → ((((64 : Int32) ≤ x2 → (Z_2 x2 ())) ∧ (¬ (64 : Int32) ≤ x2 → (v_Reader_small_0 I0 n1 f1 (x1 + x2) (fun r u => (v_Reader_rowLength_15 I0 n1 f1 x1 x2 r (v_Reader_rowLength_2 I0 n1 f1 x1  Z_2 M) Z_2)))))) → ((((64 : Int32) ≤ x2 → (Z_3 x2 ())) ∧ (¬ (64 : Int32) ≤ x2 → (v_Reader_small_0 I0 n1 f1 (x1 + x2) (fun r u => (v_Reader_rowLength_15 I0 n1 f1 x1 x2 r (v_Reader_rowLength_2 I0 n1 f1 x1  Z_3 N) Z_3))))))) : v_Reader_rowLength_2 I0 n1 f1 x1 Z_1 (N + 1) x2 → v_Reader_rowLength_2 I0 n1 f1 x1 Z_2 (M + 1) x2 → v_Reader_rowLength_2 I0 n1 f1 x1 Z_3 (N + 1) x2 := h
theorem y_Reader_rowLength_0 {I0 : Nat → Int32} {n1 : Nat} {f1 : Nat → Int32} {x1 : Int32} {Z_1 Z_2 Z_3 : Int32 → Unit → Prop} (h : ((∃ Nx, v_Reader_rowLength_2 I0 n1 f1 x1  Z_1 Nx (1 : Int32))) → ((∃ Nx, v_Reader_rowLength_2 I0 n1 f1 x1  Z_2 Nx (1 : Int32))) → ((∃ Nx, v_Reader_rowLength_2 I0 n1 f1 x1  Z_3 Nx (1 : Int32)))) : v_Reader_rowLength_0 I0 n1 f1 x1 Z_1 → v_Reader_rowLength_0 I0 n1 f1 x1 Z_2 → v_Reader_rowLength_0 I0 n1 f1 x1 Z_3 := h
theorem y_Reader_bracketRow_55 {I0 : Nat → Int32} {n1 : Nat} {f1 : Nat → Int32} {x3 : Int32} {s0 : Int32} {Z_1 Z_2 Z_3 : Int32 → Unit → Prop} (h : (((¬ s0 = (93 : Int32) → (Z_1 (0 : Int32) ())) ∧ (s0 = (93 : Int32) → (Z_1 x3 ())))) → (((¬ s0 = (93 : Int32) → (Z_2 (0 : Int32) ())) ∧ (s0 = (93 : Int32) → (Z_2 x3 ())))) → (((¬ s0 = (93 : Int32) → (Z_3 (0 : Int32) ())) ∧ (s0 = (93 : Int32) → (Z_3 x3 ()))))) : v_Reader_bracketRow_55 I0 n1 f1 x3 s0 Z_1 → v_Reader_bracketRow_55 I0 n1 f1 x3 s0 Z_2 → v_Reader_bracketRow_55 I0 n1 f1 x3 s0 Z_3 := h
theorem y_Reader_bracketRow_45 {I0 : Nat → Int32} {n1 : Nat} {f1 : Nat → Int32} {x1 : Int32} {s0 : Int32} {Z_1 Z_2 Z_3 : Int32 → Unit → Prop} (h : ((v_Reader_sign_0 I0 n1 f1 ((x1 + (1 : Int32)) + s0) (fun r u => (v_Reader_bracketRow_55 I0 n1 f1 s0 r  Z_1)))) → ((v_Reader_sign_0 I0 n1 f1 ((x1 + (1 : Int32)) + s0) (fun r u => (v_Reader_bracketRow_55 I0 n1 f1 s0 r  Z_2)))) → ((v_Reader_sign_0 I0 n1 f1 ((x1 + (1 : Int32)) + s0) (fun r u => (v_Reader_bracketRow_55 I0 n1 f1 s0 r  Z_3))))) : v_Reader_bracketRow_45 I0 n1 f1 x1 s0 Z_1 → v_Reader_bracketRow_45 I0 n1 f1 x1 s0 Z_2 → v_Reader_bracketRow_45 I0 n1 f1 x1 s0 Z_3 := h
theorem y_Reader_bracketRow_38 {I0 : Nat → Int32} {n1 : Nat} {f1 : Nat → Int32} {x1 : Int32} {Z_1 Z_2 Z_3 : Int32 → Unit → Prop} (h : ((v_Reader_rowLength_0 I0 n1 f1 (x1 + (1 : Int32)) (fun r u => (v_Reader_bracketRow_45 I0 n1 f1 x1 r  Z_1)))) → ((v_Reader_rowLength_0 I0 n1 f1 (x1 + (1 : Int32)) (fun r u => (v_Reader_bracketRow_45 I0 n1 f1 x1 r  Z_2)))) → ((v_Reader_rowLength_0 I0 n1 f1 (x1 + (1 : Int32)) (fun r u => (v_Reader_bracketRow_45 I0 n1 f1 x1 r  Z_3))))) : v_Reader_bracketRow_38 I0 n1 f1 x1 Z_1 → v_Reader_bracketRow_38 I0 n1 f1 x1 Z_2 → v_Reader_bracketRow_38 I0 n1 f1 x1 Z_3 := h
theorem y_Reader_bracketRow_13 {I0 : Nat → Int32} {n1 : Nat} {f1 : Nat → Int32} {x1 : Int32} {x2 : Int32} {s0 : Int32} {Z_1 Z_2 Z_3 : Int32 → Unit → Prop} (h : (((¬ s0 = (91 : Int32) → (Z_1 (0 : Int32) ())) ∧ (s0 = (91 : Int32) → ((x2 = (104 : Int32) → (v_Reader_bracketRow_38 I0 n1 f1 x1  Z_1)) ∧ (¬ x2 = (104 : Int32) → ((x2 = (109 : Int32) → (v_Reader_bracketRow_38 I0 n1 f1 x1  Z_1)) ∧ (¬ x2 = (109 : Int32) → ((x2 = (115 : Int32) → (v_Reader_bracketRow_38 I0 n1 f1 x1  Z_1)) ∧ (¬ x2 = (115 : Int32) → (Z_1 (0 : Int32) ())))))))))) → (((¬ s0 = (91 : Int32) → (Z_2 (0 : Int32) ())) ∧ (s0 = (91 : Int32) → ((x2 = (104 : Int32) → (v_Reader_bracketRow_38 I0 n1 f1 x1  Z_2)) ∧ (¬ x2 = (104 : Int32) → ((x2 = (109 : Int32) → (v_Reader_bracketRow_38 I0 n1 f1 x1  Z_2)) ∧ (¬ x2 = (109 : Int32) → ((x2 = (115 : Int32) → (v_Reader_bracketRow_38 I0 n1 f1 x1  Z_2)) ∧ (¬ x2 = (115 : Int32) → (Z_2 (0 : Int32) ())))))))))) → (((¬ s0 = (91 : Int32) → (Z_3 (0 : Int32) ())) ∧ (s0 = (91 : Int32) → ((x2 = (104 : Int32) → (v_Reader_bracketRow_38 I0 n1 f1 x1  Z_3)) ∧ (¬ x2 = (104 : Int32) → ((x2 = (109 : Int32) → (v_Reader_bracketRow_38 I0 n1 f1 x1  Z_3)) ∧ (¬ x2 = (109 : Int32) → ((x2 = (115 : Int32) → (v_Reader_bracketRow_38 I0 n1 f1 x1  Z_3)) ∧ (¬ x2 = (115 : Int32) → (Z_3 (0 : Int32) ()))))))))))) : v_Reader_bracketRow_13 I0 n1 f1 x1 x2 s0 Z_1 → v_Reader_bracketRow_13 I0 n1 f1 x1 x2 s0 Z_2 → v_Reader_bracketRow_13 I0 n1 f1 x1 x2 s0 Z_3 := h
theorem y_Reader_bracketRow_7 {I0 : Nat → Int32} {n1 : Nat} {f1 : Nat → Int32} {x1 : Int32} {s0 : Int32} {Z_1 Z_2 Z_3 : Int32 → Unit → Prop} (h : ((v_Reader_sign_0 I0 n1 f1 x1 (fun r u => (v_Reader_bracketRow_13 I0 n1 f1 x1 s0 r  Z_1)))) → ((v_Reader_sign_0 I0 n1 f1 x1 (fun r u => (v_Reader_bracketRow_13 I0 n1 f1 x1 s0 r  Z_2)))) → ((v_Reader_sign_0 I0 n1 f1 x1 (fun r u => (v_Reader_bracketRow_13 I0 n1 f1 x1 s0 r  Z_3))))) : v_Reader_bracketRow_7 I0 n1 f1 x1 s0 Z_1 → v_Reader_bracketRow_7 I0 n1 f1 x1 s0 Z_2 → v_Reader_bracketRow_7 I0 n1 f1 x1 s0 Z_3 := h
theorem y_Reader_bracketRow_0 {I0 : Nat → Int32} {n1 : Nat} {f1 : Nat → Int32} {x1 : Int32} {Z_1 Z_2 Z_3 : Int32 → Unit → Prop} (h : ((v_Reader_small_0 I0 n1 f1 (x1 + (1 : Int32)) (fun r u => (v_Reader_bracketRow_7 I0 n1 f1 x1 r  Z_1)))) → ((v_Reader_small_0 I0 n1 f1 (x1 + (1 : Int32)) (fun r u => (v_Reader_bracketRow_7 I0 n1 f1 x1 r  Z_2)))) → ((v_Reader_small_0 I0 n1 f1 (x1 + (1 : Int32)) (fun r u => (v_Reader_bracketRow_7 I0 n1 f1 x1 r  Z_3))))) : v_Reader_bracketRow_0 I0 n1 f1 x1 Z_1 → v_Reader_bracketRow_0 I0 n1 f1 x1 Z_2 → v_Reader_bracketRow_0 I0 n1 f1 x1 Z_3 := h
theorem y_Reader_halfDayLength_21 {I0 : Nat → Int32} {n1 : Nat} {f1 : Nat → Int32} {s0 : Int32} {Z_1 Z_2 Z_3 : Int32 → Unit → Prop} (h : (((s0 = 0 → (Z_1 (0 : Int32) ())) ∧ (¬ s0 = 0 → (Z_1 (3 : Int32) ())))) → (((s0 = 0 → (Z_2 (0 : Int32) ())) ∧ (¬ s0 = 0 → (Z_2 (3 : Int32) ())))) → (((s0 = 0 → (Z_3 (0 : Int32) ())) ∧ (¬ s0 = 0 → (Z_3 (3 : Int32) ()))))) : v_Reader_halfDayLength_21 I0 n1 f1 s0 Z_1 → v_Reader_halfDayLength_21 I0 n1 f1 s0 Z_2 → v_Reader_halfDayLength_21 I0 n1 f1 s0 Z_3 := h
theorem y_Reader_halfDayLength_8 {I0 : Nat → Int32} {n1 : Nat} {f1 : Nat → Int32} {x1 : Int32} {s0 : Int32} {Z_1 Z_2 Z_3 : Int32 → Unit → Prop} (h : (((s0 = 0 → (v_Reader_goesOn_0 I0 n1 f1 x1 11 (fun r u => (v_Reader_halfDayLength_21 I0 n1 f1 r  Z_1)))) ∧ (¬ s0 = 0 → (Z_1 (5 : Int32) ())))) → (((s0 = 0 → (v_Reader_goesOn_0 I0 n1 f1 x1 11 (fun r u => (v_Reader_halfDayLength_21 I0 n1 f1 r  Z_2)))) ∧ (¬ s0 = 0 → (Z_2 (5 : Int32) ())))) → (((s0 = 0 → (v_Reader_goesOn_0 I0 n1 f1 x1 11 (fun r u => (v_Reader_halfDayLength_21 I0 n1 f1 r  Z_3)))) ∧ (¬ s0 = 0 → (Z_3 (5 : Int32) ()))))) : v_Reader_halfDayLength_8 I0 n1 f1 x1 s0 Z_1 → v_Reader_halfDayLength_8 I0 n1 f1 x1 s0 Z_2 → v_Reader_halfDayLength_8 I0 n1 f1 x1 s0 Z_3 := h
theorem y_Reader_halfDayLength_0 {I0 : Nat → Int32} {n1 : Nat} {f1 : Nat → Int32} {x1 : Int32} {Z_1 Z_2 Z_3 : Int32 → Unit → Prop} (h : ((v_Reader_goesOn_0 I0 n1 f1 x1 10 (fun r u => (v_Reader_halfDayLength_8 I0 n1 f1 x1 r  Z_1)))) → ((v_Reader_goesOn_0 I0 n1 f1 x1 10 (fun r u => (v_Reader_halfDayLength_8 I0 n1 f1 x1 r  Z_2)))) → ((v_Reader_goesOn_0 I0 n1 f1 x1 10 (fun r u => (v_Reader_halfDayLength_8 I0 n1 f1 x1 r  Z_3))))) : v_Reader_halfDayLength_0 I0 n1 f1 x1 Z_1 → v_Reader_halfDayLength_0 I0 n1 f1 x1 Z_2 → v_Reader_halfDayLength_0 I0 n1 f1 x1 Z_3 := h
theorem y_Reader_isDateLetter_0 {x0 : Int32} {Z_1 Z_2 Z_3 : Int32 → Unit → Prop} (h : (((x0 = (121 : Int32) → (Z_1 (1 : Int32) ())) ∧ (¬ x0 = (121 : Int32) → ((x0 = (109 : Int32) → (Z_1 (1 : Int32) ())) ∧ (¬ x0 = (109 : Int32) → ((x0 = (100 : Int32) → (Z_1 (1 : Int32) ())) ∧ (¬ x0 = (100 : Int32) → ((x0 = (104 : Int32) → (Z_1 (1 : Int32) ())) ∧ (¬ x0 = (104 : Int32) → ((¬ x0 = (115 : Int32) → (Z_1 (0 : Int32) ())) ∧ (x0 = (115 : Int32) → (Z_1 (1 : Int32) ())))))))))))) → (((x0 = (121 : Int32) → (Z_2 (1 : Int32) ())) ∧ (¬ x0 = (121 : Int32) → ((x0 = (109 : Int32) → (Z_2 (1 : Int32) ())) ∧ (¬ x0 = (109 : Int32) → ((x0 = (100 : Int32) → (Z_2 (1 : Int32) ())) ∧ (¬ x0 = (100 : Int32) → ((x0 = (104 : Int32) → (Z_2 (1 : Int32) ())) ∧ (¬ x0 = (104 : Int32) → ((¬ x0 = (115 : Int32) → (Z_2 (0 : Int32) ())) ∧ (x0 = (115 : Int32) → (Z_2 (1 : Int32) ())))))))))))) → (((x0 = (121 : Int32) → (Z_3 (1 : Int32) ())) ∧ (¬ x0 = (121 : Int32) → ((x0 = (109 : Int32) → (Z_3 (1 : Int32) ())) ∧ (¬ x0 = (109 : Int32) → ((x0 = (100 : Int32) → (Z_3 (1 : Int32) ())) ∧ (¬ x0 = (100 : Int32) → ((x0 = (104 : Int32) → (Z_3 (1 : Int32) ())) ∧ (¬ x0 = (104 : Int32) → ((¬ x0 = (115 : Int32) → (Z_3 (0 : Int32) ())) ∧ (x0 = (115 : Int32) → (Z_3 (1 : Int32) ()))))))))))))) : v_Reader_isDateLetter_0 x0 Z_1 → v_Reader_isDateLetter_0 x0 Z_2 → v_Reader_isDateLetter_0 x0 Z_3 := h
theorem y_Reader_isPlace_0 {x0 : Int32} {Z_1 Z_2 Z_3 : Int32 → Unit → Prop} (h : (((x0 = (48 : Int32) → (Z_1 (1 : Int32) ())) ∧ (¬ x0 = (48 : Int32) → ((x0 = (35 : Int32) → (Z_1 (1 : Int32) ())) ∧ (¬ x0 = (35 : Int32) → ((¬ x0 = (63 : Int32) → (Z_1 (0 : Int32) ())) ∧ (x0 = (63 : Int32) → (Z_1 (1 : Int32) ())))))))) → (((x0 = (48 : Int32) → (Z_2 (1 : Int32) ())) ∧ (¬ x0 = (48 : Int32) → ((x0 = (35 : Int32) → (Z_2 (1 : Int32) ())) ∧ (¬ x0 = (35 : Int32) → ((¬ x0 = (63 : Int32) → (Z_2 (0 : Int32) ())) ∧ (x0 = (63 : Int32) → (Z_2 (1 : Int32) ())))))))) → (((x0 = (48 : Int32) → (Z_3 (1 : Int32) ())) ∧ (¬ x0 = (48 : Int32) → ((x0 = (35 : Int32) → (Z_3 (1 : Int32) ())) ∧ (¬ x0 = (35 : Int32) → ((¬ x0 = (63 : Int32) → (Z_3 (0 : Int32) ())) ∧ (x0 = (63 : Int32) → (Z_3 (1 : Int32) ()))))))))) : v_Reader_isPlace_0 x0 Z_1 → v_Reader_isPlace_0 x0 Z_2 → v_Reader_isPlace_0 x0 Z_3 := h
theorem y_Reader_kindMadeAt_52 {I0 : Nat → Int32} {n1 : Nat} {f1 : Nat → Int32} {s0 : Int32} {Z_1 Z_2 Z_3 : Int32 → Unit → Prop} (h : (((s0 = 0 → (Z_1 (1 : Int32) ())) ∧ (¬ s0 = 0 → (Z_1 (5 : Int32) ())))) → (((s0 = 0 → (Z_2 (1 : Int32) ())) ∧ (¬ s0 = 0 → (Z_2 (5 : Int32) ())))) → (((s0 = 0 → (Z_3 (1 : Int32) ())) ∧ (¬ s0 = 0 → (Z_3 (5 : Int32) ()))))) : v_Reader_kindMadeAt_52 I0 n1 f1 s0 Z_1 → v_Reader_kindMadeAt_52 I0 n1 f1 s0 Z_2 → v_Reader_kindMadeAt_52 I0 n1 f1 s0 Z_3 := h
theorem y_Reader_kindMadeAt_47 {I0 : Nat → Int32} {n1 : Nat} {f1 : Nat → Int32} {Z_1 Z_2 Z_3 : Int32 → Unit → Prop} (h : ((v_Reader_kindMadeAt_52 I0 n1 f1 (1 : Int32)  Z_1)) → ((v_Reader_kindMadeAt_52 I0 n1 f1 (1 : Int32)  Z_2)) → ((v_Reader_kindMadeAt_52 I0 n1 f1 (1 : Int32)  Z_3))) : v_Reader_kindMadeAt_47 I0 n1 f1 Z_1 → v_Reader_kindMadeAt_47 I0 n1 f1 Z_2 → v_Reader_kindMadeAt_47 I0 n1 f1 Z_3 := h
theorem y_Reader_kindMadeAt_44 {I0 : Nat → Int32} {n1 : Nat} {f1 : Nat → Int32} {s0 : Int32} {Z_1 Z_2 Z_3 : Int32 → Unit → Prop} (h : (((s0 ≤ 0 → (v_Reader_kindMadeAt_52 I0 n1 f1 (0 : Int32)  Z_1)) ∧ (¬ s0 ≤ 0 → (v_Reader_kindMadeAt_47 I0 n1 f1  Z_1)))) → (((s0 ≤ 0 → (v_Reader_kindMadeAt_52 I0 n1 f1 (0 : Int32)  Z_2)) ∧ (¬ s0 ≤ 0 → (v_Reader_kindMadeAt_47 I0 n1 f1  Z_2)))) → (((s0 ≤ 0 → (v_Reader_kindMadeAt_52 I0 n1 f1 (0 : Int32)  Z_3)) ∧ (¬ s0 ≤ 0 → (v_Reader_kindMadeAt_47 I0 n1 f1  Z_3))))) : v_Reader_kindMadeAt_44 I0 n1 f1 s0 Z_1 → v_Reader_kindMadeAt_44 I0 n1 f1 s0 Z_2 → v_Reader_kindMadeAt_44 I0 n1 f1 s0 Z_3 := h
theorem y_Reader_kindMadeAt_36 {I0 : Nat → Int32} {n1 : Nat} {f1 : Nat → Int32} {x1 : Int32} {s0 : Int32} {Z_1 Z_2 Z_3 : Int32 → Unit → Prop} (h : (((0 < s0 → (v_Reader_kindMadeAt_47 I0 n1 f1  Z_1)) ∧ (¬ 0 < s0 → (v_Reader_halfDayLength_0 I0 n1 f1 x1 (fun r u => (v_Reader_kindMadeAt_44 I0 n1 f1 r  Z_1)))))) → (((0 < s0 → (v_Reader_kindMadeAt_47 I0 n1 f1  Z_2)) ∧ (¬ 0 < s0 → (v_Reader_halfDayLength_0 I0 n1 f1 x1 (fun r u => (v_Reader_kindMadeAt_44 I0 n1 f1 r  Z_2)))))) → (((0 < s0 → (v_Reader_kindMadeAt_47 I0 n1 f1  Z_3)) ∧ (¬ 0 < s0 → (v_Reader_halfDayLength_0 I0 n1 f1 x1 (fun r u => (v_Reader_kindMadeAt_44 I0 n1 f1 r  Z_3))))))) : v_Reader_kindMadeAt_36 I0 n1 f1 x1 s0 Z_1 → v_Reader_kindMadeAt_36 I0 n1 f1 x1 s0 Z_2 → v_Reader_kindMadeAt_36 I0 n1 f1 x1 s0 Z_3 := h
theorem y_Reader_kindMadeAt_28 {I0 : Nat → Int32} {n1 : Nat} {f1 : Nat → Int32} {x1 : Int32} {s0 : Int32} {Z_1 Z_2 Z_3 : Int32 → Unit → Prop} (h : (((¬ s0 = 0 → (v_Reader_kindMadeAt_47 I0 n1 f1  Z_1)) ∧ (s0 = 0 → (v_Reader_bracketRow_0 I0 n1 f1 x1 (fun r u => (v_Reader_kindMadeAt_36 I0 n1 f1 x1 r  Z_1)))))) → (((¬ s0 = 0 → (v_Reader_kindMadeAt_47 I0 n1 f1  Z_2)) ∧ (s0 = 0 → (v_Reader_bracketRow_0 I0 n1 f1 x1 (fun r u => (v_Reader_kindMadeAt_36 I0 n1 f1 x1 r  Z_2)))))) → (((¬ s0 = 0 → (v_Reader_kindMadeAt_47 I0 n1 f1  Z_3)) ∧ (s0 = 0 → (v_Reader_bracketRow_0 I0 n1 f1 x1 (fun r u => (v_Reader_kindMadeAt_36 I0 n1 f1 x1 r  Z_3))))))) : v_Reader_kindMadeAt_28 I0 n1 f1 x1 s0 Z_1 → v_Reader_kindMadeAt_28 I0 n1 f1 x1 s0 Z_2 → v_Reader_kindMadeAt_28 I0 n1 f1 x1 s0 Z_3 := h
theorem y_Reader_kindMadeAt_10 {I0 : Nat → Int32} {n1 : Nat} {f1 : Nat → Int32} {x1 : Int32} {x2 : Int32} {s0 : Int32} {Z_1 Z_2 Z_3 : Int32 → Unit → Prop} (h : (((s0 = 0 → ((¬ x2 = (64 : Int32) → (v_Reader_isDateLetter_0 x2 (fun r u => (v_Reader_kindMadeAt_28 I0 n1 f1 x1 r  Z_1)))) ∧ (x2 = (64 : Int32) → (Z_1 (6 : Int32) ())))) ∧ (¬ s0 = 0 → (Z_1 (2 : Int32) ())))) → (((s0 = 0 → ((¬ x2 = (64 : Int32) → (v_Reader_isDateLetter_0 x2 (fun r u => (v_Reader_kindMadeAt_28 I0 n1 f1 x1 r  Z_2)))) ∧ (x2 = (64 : Int32) → (Z_2 (6 : Int32) ())))) ∧ (¬ s0 = 0 → (Z_2 (2 : Int32) ())))) → (((s0 = 0 → ((¬ x2 = (64 : Int32) → (v_Reader_isDateLetter_0 x2 (fun r u => (v_Reader_kindMadeAt_28 I0 n1 f1 x1 r  Z_3)))) ∧ (x2 = (64 : Int32) → (Z_3 (6 : Int32) ())))) ∧ (¬ s0 = 0 → (Z_3 (2 : Int32) ()))))) : v_Reader_kindMadeAt_10 I0 n1 f1 x1 x2 s0 Z_1 → v_Reader_kindMadeAt_10 I0 n1 f1 x1 x2 s0 Z_2 → v_Reader_kindMadeAt_10 I0 n1 f1 x1 x2 s0 Z_3 := h
theorem y_Reader_kindMadeAt_5 {I0 : Nat → Int32} {n1 : Nat} {f1 : Nat → Int32} {x1 : Int32} {s0 : Int32} {Z_1 Z_2 Z_3 : Int32 → Unit → Prop} (h : ((v_Reader_isPlace_0 s0 (fun r u => (v_Reader_kindMadeAt_10 I0 n1 f1 x1 s0 r  Z_1)))) → ((v_Reader_isPlace_0 s0 (fun r u => (v_Reader_kindMadeAt_10 I0 n1 f1 x1 s0 r  Z_2)))) → ((v_Reader_isPlace_0 s0 (fun r u => (v_Reader_kindMadeAt_10 I0 n1 f1 x1 s0 r  Z_3))))) : v_Reader_kindMadeAt_5 I0 n1 f1 x1 s0 Z_1 → v_Reader_kindMadeAt_5 I0 n1 f1 x1 s0 Z_2 → v_Reader_kindMadeAt_5 I0 n1 f1 x1 s0 Z_3 := h
theorem y_Reader_kindMadeAt_0 {I0 : Nat → Int32} {n1 : Nat} {f1 : Nat → Int32} {x1 : Int32} {Z_1 Z_2 Z_3 : Int32 → Unit → Prop} (h : ((v_Reader_small_0 I0 n1 f1 x1 (fun r u => (v_Reader_kindMadeAt_5 I0 n1 f1 x1 r  Z_1)))) → ((v_Reader_small_0 I0 n1 f1 x1 (fun r u => (v_Reader_kindMadeAt_5 I0 n1 f1 x1 r  Z_2)))) → ((v_Reader_small_0 I0 n1 f1 x1 (fun r u => (v_Reader_kindMadeAt_5 I0 n1 f1 x1 r  Z_3))))) : v_Reader_kindMadeAt_0 I0 n1 f1 x1 Z_1 → v_Reader_kindMadeAt_0 I0 n1 f1 x1 Z_2 → v_Reader_kindMadeAt_0 I0 n1 f1 x1 Z_3 := h
theorem y_Reader_findKind_60 {I0 : Nat → Int32} {I1 : Nat → Int32} {n2 : Nat} {f2 : Nat → Int32} {x2 : Int32} {x3 : Int32} {x4 : Int32} {k15_1 k15_2 k15_3 : (Nat → Int32) → (Nat → Int32) → Int32 → Prop} {Z_1 Z_2 Z_3 : (Nat → Int32) × (Nat → Int32) → Prop} (h : ((k15_1 I0 I1 (x3 + (zmax (1 : Int32) x4)))) → ((k15_2 I0 I1 (x3 + (zmax (1 : Int32) x4)))) → ((k15_3 I0 I1 (x3 + (zmax (1 : Int32) x4))))) : v_Reader_findKind_60 I0 I1 n2 f2 x2 x3 x4 k15_1 Z_1 → v_Reader_findKind_60 I0 I1 n2 f2 x2 x3 x4 k15_2 Z_2 → v_Reader_findKind_60 I0 I1 n2 f2 x2 x3 x4 k15_3 Z_3 := h
theorem y_Reader_findKind_37 {I0 : Nat → Int32} {I1 : Nat → Int32} {n2 : Nat} {f2 : Nat → Int32} {x2 : Int32} {x3 : Int32} {x4 : Int32} {s0 : Int32} {k15_1 k15_2 k15_3 : (Nat → Int32) → (Nat → Int32) → Int32 → Prop} {Z_1 Z_2 Z_3 : (Nat → Int32) × (Nat → Int32) → Prop} (h : (((s0 = (1 : Int32) → (v_Reader_findKind_60 I0 I1 n2 f2 x2 x3 x4 k15_1 Z_1)) ∧ (¬ s0 = (1 : Int32) → (Z_1 ((zu I0 4 x3), (zu I1 0 s0)))))) → (((s0 = (1 : Int32) → (v_Reader_findKind_60 I0 I1 n2 f2 x2 x3 x4 k15_2 Z_2)) ∧ (¬ s0 = (1 : Int32) → (Z_2 ((zu I0 4 x3), (zu I1 0 s0)))))) → (((s0 = (1 : Int32) → (v_Reader_findKind_60 I0 I1 n2 f2 x2 x3 x4 k15_3 Z_3)) ∧ (¬ s0 = (1 : Int32) → (Z_3 ((zu I0 4 x3), (zu I1 0 s0))))))) : v_Reader_findKind_37 I0 I1 n2 f2 x2 x3 x4 s0 k15_1 Z_1 → v_Reader_findKind_37 I0 I1 n2 f2 x2 x3 x4 s0 k15_2 Z_2 → v_Reader_findKind_37 I0 I1 n2 f2 x2 x3 x4 s0 k15_3 Z_3 := h
theorem y_Reader_findKind_25 {I0 : Nat → Int32} {I1 : Nat → Int32} {n2 : Nat} {f2 : Nat → Int32} {x2 : Int32} {x3 : Int32} {s0 : Int32} {k15_1 k15_2 k15_3 : (Nat → Int32) → (Nat → Int32) → Int32 → Prop} {Z_1 Z_2 Z_3 : (Nat → Int32) × (Nat → Int32) → Prop} (h : (((¬ s0 = 0 → (v_Reader_findKind_60 I0 I1 n2 f2 x2 x3 s0 k15_1 Z_1)) ∧ (s0 = 0 → (v_Reader_kindMadeAt_0 I0 n2 f2 x3 (fun r u => (v_Reader_findKind_37 I0 I1 n2 f2 x2 x3 s0 r k15_1 Z_1)))))) → (((¬ s0 = 0 → (v_Reader_findKind_60 I0 I1 n2 f2 x2 x3 s0 k15_2 Z_2)) ∧ (s0 = 0 → (v_Reader_kindMadeAt_0 I0 n2 f2 x3 (fun r u => (v_Reader_findKind_37 I0 I1 n2 f2 x2 x3 s0 r k15_2 Z_2)))))) → (((¬ s0 = 0 → (v_Reader_findKind_60 I0 I1 n2 f2 x2 x3 s0 k15_3 Z_3)) ∧ (s0 = 0 → (v_Reader_kindMadeAt_0 I0 n2 f2 x3 (fun r u => (v_Reader_findKind_37 I0 I1 n2 f2 x2 x3 s0 r k15_3 Z_3))))))) : v_Reader_findKind_25 I0 I1 n2 f2 x2 x3 s0 k15_1 Z_1 → v_Reader_findKind_25 I0 I1 n2 f2 x2 x3 s0 k15_2 Z_2 → v_Reader_findKind_25 I0 I1 n2 f2 x2 x3 s0 k15_3 Z_3 := h
theorem y_Reader_findKind_15 {n2 : Nat} {f2 : Nat → Int32} {x2 : Int32} {Z_1 Z_2 Z_3 : (Nat → Int32) × (Nat → Int32) → Prop} {N M : Nat} {I0 : (Nat → Int32)} {I1 : (Nat → Int32)} {x3 : Int32} (h : (((x2 ≤ x3 → (Z_1 (I0, I1))) ∧ (¬ x2 ≤ x3 → (v_Reader_commonLength_0 I0 n2 f2 x3 (fun r u => (v_Reader_findKind_25 I0 I1 n2 f2 x2 x3 r (v_Reader_findKind_15 n2 f2 x2  Z_1 N) Z_1)))))) → (((x2 ≤ x3 → (Z_2 (I0, I1))) ∧ (¬ x2 ≤ x3 → (v_Reader_commonLength_0 I0 n2 f2 x3 (fun r u => (v_Reader_findKind_25 I0 I1 n2 f2 x2 x3 r (v_Reader_findKind_15 n2 f2 x2  Z_2 M) Z_2)))))) → (((x2 ≤ x3 → (Z_3 (I0, I1))) ∧ (¬ x2 ≤ x3 → (v_Reader_commonLength_0 I0 n2 f2 x3 (fun r u => (v_Reader_findKind_25 I0 I1 n2 f2 x2 x3 r (v_Reader_findKind_15 n2 f2 x2  Z_3 N) Z_3))))))) : v_Reader_findKind_15 n2 f2 x2 Z_1 (N + 1) I0 I1 x3 → v_Reader_findKind_15 n2 f2 x2 Z_2 (M + 1) I0 I1 x3 → v_Reader_findKind_15 n2 f2 x2 Z_3 (N + 1) I0 I1 x3 := h
theorem y_Reader_findKind_0 {I0 : Nat → Int32} {I1 : Nat → Int32} {n2 : Nat} {f2 : Nat → Int32} {x1 : Int32} {x2 : Int32} {Z_1 Z_2 Z_3 : (Nat → Int32) × (Nat → Int32) → Prop} (h : ((∃ Nx, v_Reader_findKind_15 n2 f2 x2  Z_1 Nx (zu I0 4 x2) (zu I1 0 (1 : Int32)) x1)) → ((∃ Nx, v_Reader_findKind_15 n2 f2 x2  Z_2 Nx (zu I0 4 x2) (zu I1 0 (1 : Int32)) x1)) → ((∃ Nx, v_Reader_findKind_15 n2 f2 x2  Z_3 Nx (zu I0 4 x2) (zu I1 0 (1 : Int32)) x1))) : v_Reader_findKind_0 I0 I1 n2 f2 x1 x2 Z_1 → v_Reader_findKind_0 I0 I1 n2 f2 x1 x2 Z_2 → v_Reader_findKind_0 I0 I1 n2 f2 x1 x2 Z_3 := h
theorem y_Code_change_0 {I0 : Nat → Int32} {n1 : Nat} {f1 : Nat → Int32} {x1 : Int32} {x2 : Int32} {Z_1 Z_2 Z_3 : (Nat → Int32) → Prop} (h : (((x1 < 0 → (Z_1 (f1))) ∧ (¬ x1 < 0 → (((I0 4) ≤ x1 → (Z_1 (f1))) ∧ (¬ (I0 4) ≤ x1 → (((nI n1) ≤ x1 → (Z_1 (f1))) ∧ (¬ (nI n1) ≤ x1 → (vp_in x1 n1 ∧ (Z_1 ((upd f1 x1.toNatClampNeg x2))))))))))) → (((x1 < 0 → (Z_2 (f1))) ∧ (¬ x1 < 0 → (((I0 4) ≤ x1 → (Z_2 (f1))) ∧ (¬ (I0 4) ≤ x1 → (((nI n1) ≤ x1 → (Z_2 (f1))) ∧ (¬ (nI n1) ≤ x1 → (vp_in x1 n1 ∧ (Z_2 ((upd f1 x1.toNatClampNeg x2))))))))))) → (((x1 < 0 → (Z_3 (f1))) ∧ (¬ x1 < 0 → (((I0 4) ≤ x1 → (Z_3 (f1))) ∧ (¬ (I0 4) ≤ x1 → (((nI n1) ≤ x1 → (Z_3 (f1))) ∧ (¬ (nI n1) ≤ x1 → (vp_in x1 n1 ∧ (Z_3 ((upd f1 x1.toNatClampNeg x2)))))))))))) : v_Code_change_0 I0 n1 f1 x1 x2 Z_1 → v_Code_change_0 I0 n1 f1 x1 x2 Z_2 → v_Code_change_0 I0 n1 f1 x1 x2 Z_3 := h
theorem y_Code_kind_0 {I0 : Nat → Int32} {n1 : Nat} {f1 : Nat → Int32} {x1 : Int32} {Z_1 Z_2 Z_3 : Int32 → Unit → Prop} (h : (((x1 < 0 → (Z_1 (0 : Int32) ())) ∧ (¬ x1 < 0 → (((I0 4) ≤ x1 → (Z_1 (0 : Int32) ())) ∧ (¬ (I0 4) ≤ x1 → (((nI n1) ≤ x1 → (Z_1 (0 : Int32) ())) ∧ (¬ (nI n1) ≤ x1 → (vp_in x1 n1 ∧ (Z_1 (f1 x1.toNatClampNeg) ()))))))))) → (((x1 < 0 → (Z_2 (0 : Int32) ())) ∧ (¬ x1 < 0 → (((I0 4) ≤ x1 → (Z_2 (0 : Int32) ())) ∧ (¬ (I0 4) ≤ x1 → (((nI n1) ≤ x1 → (Z_2 (0 : Int32) ())) ∧ (¬ (nI n1) ≤ x1 → (vp_in x1 n1 ∧ (Z_2 (f1 x1.toNatClampNeg) ()))))))))) → (((x1 < 0 → (Z_3 (0 : Int32) ())) ∧ (¬ x1 < 0 → (((I0 4) ≤ x1 → (Z_3 (0 : Int32) ())) ∧ (¬ (I0 4) ≤ x1 → (((nI n1) ≤ x1 → (Z_3 (0 : Int32) ())) ∧ (¬ (nI n1) ≤ x1 → (vp_in x1 n1 ∧ (Z_3 (f1 x1.toNatClampNeg) ())))))))))) : v_Code_kind_0 I0 n1 f1 x1 Z_1 → v_Code_kind_0 I0 n1 f1 x1 Z_2 → v_Code_kind_0 I0 n1 f1 x1 Z_3 := h
theorem y_Code_mark_0 {I0 : Nat → Int32} {n1 : Nat} {f1 : Nat → Int32} {x1 : Int32} {Z_1 Z_2 Z_3 : Int32 → Unit → Prop} (h : (((x1 < 0 → (Z_1 (0 : Int32) ())) ∧ (¬ x1 < 0 → (((I0 4) ≤ x1 → (Z_1 (0 : Int32) ())) ∧ (¬ (I0 4) ≤ x1 → (((nI n1) ≤ x1 → (Z_1 (0 : Int32) ())) ∧ (¬ (nI n1) ≤ x1 → (vp_in x1 n1 ∧ (Z_1 (f1 x1.toNatClampNeg) ()))))))))) → (((x1 < 0 → (Z_2 (0 : Int32) ())) ∧ (¬ x1 < 0 → (((I0 4) ≤ x1 → (Z_2 (0 : Int32) ())) ∧ (¬ (I0 4) ≤ x1 → (((nI n1) ≤ x1 → (Z_2 (0 : Int32) ())) ∧ (¬ (nI n1) ≤ x1 → (vp_in x1 n1 ∧ (Z_2 (f1 x1.toNatClampNeg) ()))))))))) → (((x1 < 0 → (Z_3 (0 : Int32) ())) ∧ (¬ x1 < 0 → (((I0 4) ≤ x1 → (Z_3 (0 : Int32) ())) ∧ (¬ (I0 4) ≤ x1 → (((nI n1) ≤ x1 → (Z_3 (0 : Int32) ())) ∧ (¬ (nI n1) ≤ x1 → (vp_in x1 n1 ∧ (Z_3 (f1 x1.toNatClampNeg) ())))))))))) : v_Code_mark_0 I0 n1 f1 x1 Z_1 → v_Code_mark_0 I0 n1 f1 x1 Z_2 → v_Code_mark_0 I0 n1 f1 x1 Z_3 := h
theorem y_Code_add_0 {I0 : Nat → Int32} {n1 : Nat} {f1 : Nat → Int32} {n2 : Nat} {f2 : Nat → Int32} {x1 : Int32} {x2 : Int32} {Z_1 Z_2 Z_3 : (Nat → Int32) × (Nat → Int32) × (Nat → Int32) → Prop} (h : ((((I0 4) < 0 → (Z_1 (I0, f1, f2))) ∧ (¬ (I0 4) < 0 → (((nI n1) ≤ (I0 4) → (Z_1 (I0, f1, f2))) ∧ (¬ (nI n1) ≤ (I0 4) → (((nI n2) ≤ (I0 4) → (Z_1 (I0, f1, f2))) ∧ (¬ (nI n2) ≤ (I0 4) → (vp_in (I0 4) n1 ∧ (vp_in (I0 4) n2 ∧ (Z_1 ((zu I0 4 ((I0 4) + (1 : Int32))), (upd f1 (I0 4).toNatClampNeg x1), (upd f2 (I0 4).toNatClampNeg x2)))))))))))) → ((((I0 4) < 0 → (Z_2 (I0, f1, f2))) ∧ (¬ (I0 4) < 0 → (((nI n1) ≤ (I0 4) → (Z_2 (I0, f1, f2))) ∧ (¬ (nI n1) ≤ (I0 4) → (((nI n2) ≤ (I0 4) → (Z_2 (I0, f1, f2))) ∧ (¬ (nI n2) ≤ (I0 4) → (vp_in (I0 4) n1 ∧ (vp_in (I0 4) n2 ∧ (Z_2 ((zu I0 4 ((I0 4) + (1 : Int32))), (upd f1 (I0 4).toNatClampNeg x1), (upd f2 (I0 4).toNatClampNeg x2)))))))))))) → ((((I0 4) < 0 → (Z_3 (I0, f1, f2))) ∧ (¬ (I0 4) < 0 → (((nI n1) ≤ (I0 4) → (Z_3 (I0, f1, f2))) ∧ (¬ (nI n1) ≤ (I0 4) → (((nI n2) ≤ (I0 4) → (Z_3 (I0, f1, f2))) ∧ (¬ (nI n2) ≤ (I0 4) → (vp_in (I0 4) n1 ∧ (vp_in (I0 4) n2 ∧ (Z_3 ((zu I0 4 ((I0 4) + (1 : Int32))), (upd f1 (I0 4).toNatClampNeg x1), (upd f2 (I0 4).toNatClampNeg x2))))))))))))) : v_Code_add_0 I0 n1 f1 n2 f2 x1 x2 Z_1 → v_Code_add_0 I0 n1 f1 n2 f2 x1 x2 Z_2 → v_Code_add_0 I0 n1 f1 n2 f2 x1 x2 Z_3 := h
theorem y_Reader_addCommon_154 {I0 : Nat → Int32} {n1 : Nat} {f1 : Nat → Int32} {I2 : Nat → Int32} {n3 : Nat} {f3 : Nat → Int32} {n4 : Nat} {f4 : Nat → Int32} {Z_1 Z_2 Z_3 : (Nat → Int32) × (Nat → Int32) × (Nat → Int32) → Prop} (h : ((Z_1 (I2, f3, f4))) → ((Z_2 (I2, f3, f4))) → ((Z_3 (I2, f3, f4)))) : v_Reader_addCommon_154 I0 n1 f1 I2 n3 f3 n4 f4 Z_1 → v_Reader_addCommon_154 I0 n1 f1 I2 n3 f3 n4 f4 Z_2 → v_Reader_addCommon_154 I0 n1 f1 I2 n3 f3 n4 f4 Z_3 := h
theorem y_Reader_addCommon_113 {I0 : Nat → Int32} {n1 : Nat} {f1 : Nat → Int32} {I2 : Nat → Int32} {n3 : Nat} {f3 : Nat → Int32} {n4 : Nat} {f4 : Nat → Int32} {Z_1 Z_2 Z_3 : (Nat → Int32) × (Nat → Int32) × (Nat → Int32) → Prop} (h : ((v_Reader_addCommon_154 I0 n1 f1 I2 n3 f3 n4 f4  Z_1)) → ((v_Reader_addCommon_154 I0 n1 f1 I2 n3 f3 n4 f4  Z_2)) → ((v_Reader_addCommon_154 I0 n1 f1 I2 n3 f3 n4 f4  Z_3))) : v_Reader_addCommon_113 I0 n1 f1 I2 n3 f3 n4 f4 Z_1 → v_Reader_addCommon_113 I0 n1 f1 I2 n3 f3 n4 f4 Z_2 → v_Reader_addCommon_113 I0 n1 f1 I2 n3 f3 n4 f4 Z_3 := h
theorem y_Reader_addCommon_110 {I0 : Nat → Int32} {n1 : Nat} {f1 : Nat → Int32} {I2 : Nat → Int32} {n3 : Nat} {f3 : Nat → Int32} {n4 : Nat} {f4 : Nat → Int32} {s1 : Int32} {s2 : Int32} {Z_1 Z_2 Z_3 : (Nat → Int32) × (Nat → Int32) × (Nat → Int32) → Prop} (h : ((v_Code_add_0 I2 n3 f3 n4 f4 s1 s2 (fun u => (v_Reader_addCommon_113 I0 n1 f1 u.1 n3 u.2.1 n4 u.2.2  Z_1)))) → ((v_Code_add_0 I2 n3 f3 n4 f4 s1 s2 (fun u => (v_Reader_addCommon_113 I0 n1 f1 u.1 n3 u.2.1 n4 u.2.2  Z_2)))) → ((v_Code_add_0 I2 n3 f3 n4 f4 s1 s2 (fun u => (v_Reader_addCommon_113 I0 n1 f1 u.1 n3 u.2.1 n4 u.2.2  Z_3))))) : v_Reader_addCommon_110 I0 n1 f1 I2 n3 f3 n4 f4 s1 s2 Z_1 → v_Reader_addCommon_110 I0 n1 f1 I2 n3 f3 n4 f4 s1 s2 Z_2 → v_Reader_addCommon_110 I0 n1 f1 I2 n3 f3 n4 f4 s1 s2 Z_3 := h
theorem y_Reader_addCommon_126 {I0 : Nat → Int32} {n1 : Nat} {f1 : Nat → Int32} {I2 : Nat → Int32} {n3 : Nat} {f3 : Nat → Int32} {n4 : Nat} {f4 : Nat → Int32} {Z_1 Z_2 Z_3 : (Nat → Int32) × (Nat → Int32) × (Nat → Int32) → Prop} (h : ((v_Reader_addCommon_154 I0 n1 f1 I2 n3 f3 n4 f4  Z_1)) → ((v_Reader_addCommon_154 I0 n1 f1 I2 n3 f3 n4 f4  Z_2)) → ((v_Reader_addCommon_154 I0 n1 f1 I2 n3 f3 n4 f4  Z_3))) : v_Reader_addCommon_126 I0 n1 f1 I2 n3 f3 n4 f4 Z_1 → v_Reader_addCommon_126 I0 n1 f1 I2 n3 f3 n4 f4 Z_2 → v_Reader_addCommon_126 I0 n1 f1 I2 n3 f3 n4 f4 Z_3 := h
theorem y_Reader_addCommon_138 {I0 : Nat → Int32} {n1 : Nat} {f1 : Nat → Int32} {I2 : Nat → Int32} {n3 : Nat} {f3 : Nat → Int32} {n4 : Nat} {f4 : Nat → Int32} {Z_1 Z_2 Z_3 : (Nat → Int32) × (Nat → Int32) × (Nat → Int32) → Prop} (h : ((v_Reader_addCommon_154 I0 n1 f1 I2 n3 f3 n4 f4  Z_1)) → ((v_Reader_addCommon_154 I0 n1 f1 I2 n3 f3 n4 f4  Z_2)) → ((v_Reader_addCommon_154 I0 n1 f1 I2 n3 f3 n4 f4  Z_3))) : v_Reader_addCommon_138 I0 n1 f1 I2 n3 f3 n4 f4 Z_1 → v_Reader_addCommon_138 I0 n1 f1 I2 n3 f3 n4 f4 Z_2 → v_Reader_addCommon_138 I0 n1 f1 I2 n3 f3 n4 f4 Z_3 := h
theorem y_Reader_addCommon_151 {I0 : Nat → Int32} {n1 : Nat} {f1 : Nat → Int32} {I2 : Nat → Int32} {n3 : Nat} {f3 : Nat → Int32} {n4 : Nat} {f4 : Nat → Int32} {s1 : Int32} {s2 : Int32} {Z_1 Z_2 Z_3 : (Nat → Int32) × (Nat → Int32) × (Nat → Int32) → Prop} (h : ((v_Code_add_0 I2 n3 f3 n4 f4 s1 s2 (fun u => (v_Reader_addCommon_154 I0 n1 f1 u.1 n3 u.2.1 n4 u.2.2  Z_1)))) → ((v_Code_add_0 I2 n3 f3 n4 f4 s1 s2 (fun u => (v_Reader_addCommon_154 I0 n1 f1 u.1 n3 u.2.1 n4 u.2.2  Z_2)))) → ((v_Code_add_0 I2 n3 f3 n4 f4 s1 s2 (fun u => (v_Reader_addCommon_154 I0 n1 f1 u.1 n3 u.2.1 n4 u.2.2  Z_3))))) : v_Reader_addCommon_151 I0 n1 f1 I2 n3 f3 n4 f4 s1 s2 Z_1 → v_Reader_addCommon_151 I0 n1 f1 I2 n3 f3 n4 f4 s1 s2 Z_2 → v_Reader_addCommon_151 I0 n1 f1 I2 n3 f3 n4 f4 s1 s2 Z_3 := h
theorem y_Reader_addCommon_89 {I0 : Nat → Int32} {n1 : Nat} {f1 : Nat → Int32} {I2 : Nat → Int32} {n3 : Nat} {f3 : Nat → Int32} {n4 : Nat} {f4 : Nat → Int32} {x1 : Int32} {x2 : Int32} {x3 : Int32} {k67_1 k67_2 k67_3 : (Nat → Int32) → (Nat → Int32) → (Nat → Int32) → Int32 → Prop} {Z_1 Z_2 Z_3 : (Nat → Int32) × (Nat → Int32) × (Nat → Int32) → Prop} (h : ((k67_1 I2 f3 f4 (x3 + (1 : Int32)))) → ((k67_2 I2 f3 f4 (x3 + (1 : Int32)))) → ((k67_3 I2 f3 f4 (x3 + (1 : Int32))))) : v_Reader_addCommon_89 I0 n1 f1 I2 n3 f3 n4 f4 x1 x2 x3 k67_1 Z_1 → v_Reader_addCommon_89 I0 n1 f1 I2 n3 f3 n4 f4 x1 x2 x3 k67_2 Z_2 → v_Reader_addCommon_89 I0 n1 f1 I2 n3 f3 n4 f4 x1 x2 x3 k67_3 Z_3 := h
theorem y_Reader_addCommon_86 {I0 : Nat → Int32} {n1 : Nat} {f1 : Nat → Int32} {I2 : Nat → Int32} {n3 : Nat} {f3 : Nat → Int32} {n4 : Nat} {f4 : Nat → Int32} {x1 : Int32} {x2 : Int32} {x3 : Int32} {s1 : Int32} {s2 : Int32} {k67_1 k67_2 k67_3 : (Nat → Int32) → (Nat → Int32) → (Nat → Int32) → Int32 → Prop} {Z_1 Z_2 Z_3 : (Nat → Int32) × (Nat → Int32) × (Nat → Int32) → Prop} (h : ((v_Code_add_0 I2 n3 f3 n4 f4 s1 s2 (fun u => (v_Reader_addCommon_89 I0 n1 f1 u.1 n3 u.2.1 n4 u.2.2 x1 x2 x3 k67_1 Z_1)))) → ((v_Code_add_0 I2 n3 f3 n4 f4 s1 s2 (fun u => (v_Reader_addCommon_89 I0 n1 f1 u.1 n3 u.2.1 n4 u.2.2 x1 x2 x3 k67_2 Z_2)))) → ((v_Code_add_0 I2 n3 f3 n4 f4 s1 s2 (fun u => (v_Reader_addCommon_89 I0 n1 f1 u.1 n3 u.2.1 n4 u.2.2 x1 x2 x3 k67_3 Z_3))))) : v_Reader_addCommon_86 I0 n1 f1 I2 n3 f3 n4 f4 x1 x2 x3 s1 s2 k67_1 Z_1 → v_Reader_addCommon_86 I0 n1 f1 I2 n3 f3 n4 f4 x1 x2 x3 s1 s2 k67_2 Z_2 → v_Reader_addCommon_86 I0 n1 f1 I2 n3 f3 n4 f4 x1 x2 x3 s1 s2 k67_3 Z_3 := h
theorem y_Reader_addCommon_67 {I0 : Nat → Int32} {n1 : Nat} {f1 : Nat → Int32} {n3 : Nat} {n4 : Nat} {x1 : Int32} {x2 : Int32} {Z_1 Z_2 Z_3 : (Nat → Int32) × (Nat → Int32) × (Nat → Int32) → Prop} {N M : Nat} {I2 : (Nat → Int32)} {f3 : (Nat → Int32)} {f4 : (Nat → Int32)} {x3 : Int32} (h : ((((x2 - (1 : Int32)) ≤ x3 → (v_Reader_addCommon_154 I0 n1 f1 I2 n3 f3 n4 f4  Z_1)) ∧ (¬ (x2 - (1 : Int32)) ≤ x3 → (v_Reader_sign_0 I0 n1 f1 (x1 + x3) (fun r u => (v_Reader_addCommon_86 I0 n1 f1 I2 n3 f3 n4 f4 x1 x2 x3 (1 : Int32) r (v_Reader_addCommon_67 I0 n1 f1 n3 n4 x1 x2  Z_1 N) Z_1)))))) → ((((x2 - (1 : Int32)) ≤ x3 → (v_Reader_addCommon_154 I0 n1 f1 I2 n3 f3 n4 f4  Z_2)) ∧ (¬ (x2 - (1 : Int32)) ≤ x3 → (v_Reader_sign_0 I0 n1 f1 (x1 + x3) (fun r u => (v_Reader_addCommon_86 I0 n1 f1 I2 n3 f3 n4 f4 x1 x2 x3 (1 : Int32) r (v_Reader_addCommon_67 I0 n1 f1 n3 n4 x1 x2  Z_2 M) Z_2)))))) → ((((x2 - (1 : Int32)) ≤ x3 → (v_Reader_addCommon_154 I0 n1 f1 I2 n3 f3 n4 f4  Z_3)) ∧ (¬ (x2 - (1 : Int32)) ≤ x3 → (v_Reader_sign_0 I0 n1 f1 (x1 + x3) (fun r u => (v_Reader_addCommon_86 I0 n1 f1 I2 n3 f3 n4 f4 x1 x2 x3 (1 : Int32) r (v_Reader_addCommon_67 I0 n1 f1 n3 n4 x1 x2  Z_3 N) Z_3))))))) : v_Reader_addCommon_67 I0 n1 f1 n3 n4 x1 x2 Z_1 (N + 1) I2 f3 f4 x3 → v_Reader_addCommon_67 I0 n1 f1 n3 n4 x1 x2 Z_2 (M + 1) I2 f3 f4 x3 → v_Reader_addCommon_67 I0 n1 f1 n3 n4 x1 x2 Z_3 (N + 1) I2 f3 f4 x3 := h
theorem y_Reader_addCommon_65 {I0 : Nat → Int32} {n1 : Nat} {f1 : Nat → Int32} {I2 : Nat → Int32} {n3 : Nat} {f3 : Nat → Int32} {n4 : Nat} {f4 : Nat → Int32} {x1 : Int32} {x2 : Int32} {Z_1 Z_2 Z_3 : (Nat → Int32) × (Nat → Int32) × (Nat → Int32) → Prop} (h : ((∃ Nx, v_Reader_addCommon_67 I0 n1 f1 n3 n4 x1 x2  Z_1 Nx I2 f3 f4 (1 : Int32))) → ((∃ Nx, v_Reader_addCommon_67 I0 n1 f1 n3 n4 x1 x2  Z_2 Nx I2 f3 f4 (1 : Int32))) → ((∃ Nx, v_Reader_addCommon_67 I0 n1 f1 n3 n4 x1 x2  Z_3 Nx I2 f3 f4 (1 : Int32)))) : v_Reader_addCommon_65 I0 n1 f1 I2 n3 f3 n4 f4 x1 x2 Z_1 → v_Reader_addCommon_65 I0 n1 f1 I2 n3 f3 n4 f4 x1 x2 Z_2 → v_Reader_addCommon_65 I0 n1 f1 I2 n3 f3 n4 f4 x1 x2 Z_3 := h
theorem y_Reader_addCommon_5 {I0 : Nat → Int32} {n1 : Nat} {f1 : Nat → Int32} {I2 : Nat → Int32} {n3 : Nat} {f3 : Nat → Int32} {n4 : Nat} {f4 : Nat → Int32} {x1 : Int32} {x2 : Int32} {s0 : Int32} {Z_1 Z_2 Z_3 : (Nat → Int32) × (Nat → Int32) × (Nat → Int32) → Prop} (h : (((s0 = (34 : Int32) → (v_Code_add_0 I2 n3 f3 n4 f4 (0 : Int32) (0 : Int32) (fun u => (v_Reader_addCommon_65 I0 n1 f1 u.1 n3 u.2.1 n4 u.2.2 x1 x2  Z_1)))) ∧ (¬ s0 = (34 : Int32) → ((s0 = (42 : Int32) → (v_Code_add_0 I2 n3 f3 n4 f4 (0 : Int32) (0 : Int32) (fun u => (v_Reader_addCommon_138 I0 n1 f1 u.1 n3 u.2.1 n4 u.2.2  Z_1)))) ∧ (¬ s0 = (42 : Int32) → ((s0 = (91 : Int32) → (v_Code_add_0 I2 n3 f3 n4 f4 (0 : Int32) (0 : Int32) (fun u => (v_Reader_addCommon_138 I0 n1 f1 u.1 n3 u.2.1 n4 u.2.2  Z_1)))) ∧ (¬ s0 = (91 : Int32) → ((s0 = (92 : Int32) → (v_Reader_sign_0 I0 n1 f1 (x1 + (1 : Int32)) (fun r u => (v_Reader_addCommon_110 I0 n1 f1 I2 n3 f3 n4 f4 (1 : Int32) r  Z_1)))) ∧ (¬ s0 = (92 : Int32) → ((s0 = (95 : Int32) → (v_Code_add_0 I2 n3 f3 n4 f4 (1 : Int32) (32 : Int32) (fun u => (v_Reader_addCommon_126 I0 n1 f1 u.1 n3 u.2.1 n4 u.2.2  Z_1)))) ∧ (¬ s0 = (95 : Int32) → (v_Reader_sign_0 I0 n1 f1 x1 (fun r u => (v_Reader_addCommon_151 I0 n1 f1 I2 n3 f3 n4 f4 (1 : Int32) r  Z_1)))))))))))))) → (((s0 = (34 : Int32) → (v_Code_add_0 I2 n3 f3 n4 f4 (0 : Int32) (0 : Int32) (fun u => (v_Reader_addCommon_65 I0 n1 f1 u.1 n3 u.2.1 n4 u.2.2 x1 x2  Z_2)))) ∧ (¬ s0 = (34 : Int32) → ((s0 = (42 : Int32) → (v_Code_add_0 I2 n3 f3 n4 f4 (0 : Int32) (0 : Int32) (fun u => (v_Reader_addCommon_138 I0 n1 f1 u.1 n3 u.2.1 n4 u.2.2  Z_2)))) ∧ (¬ s0 = (42 : Int32) → ((s0 = (91 : Int32) → (v_Code_add_0 I2 n3 f3 n4 f4 (0 : Int32) (0 : Int32) (fun u => (v_Reader_addCommon_138 I0 n1 f1 u.1 n3 u.2.1 n4 u.2.2  Z_2)))) ∧ (¬ s0 = (91 : Int32) → ((s0 = (92 : Int32) → (v_Reader_sign_0 I0 n1 f1 (x1 + (1 : Int32)) (fun r u => (v_Reader_addCommon_110 I0 n1 f1 I2 n3 f3 n4 f4 (1 : Int32) r  Z_2)))) ∧ (¬ s0 = (92 : Int32) → ((s0 = (95 : Int32) → (v_Code_add_0 I2 n3 f3 n4 f4 (1 : Int32) (32 : Int32) (fun u => (v_Reader_addCommon_126 I0 n1 f1 u.1 n3 u.2.1 n4 u.2.2  Z_2)))) ∧ (¬ s0 = (95 : Int32) → (v_Reader_sign_0 I0 n1 f1 x1 (fun r u => (v_Reader_addCommon_151 I0 n1 f1 I2 n3 f3 n4 f4 (1 : Int32) r  Z_2)))))))))))))) → (((s0 = (34 : Int32) → (v_Code_add_0 I2 n3 f3 n4 f4 (0 : Int32) (0 : Int32) (fun u => (v_Reader_addCommon_65 I0 n1 f1 u.1 n3 u.2.1 n4 u.2.2 x1 x2  Z_3)))) ∧ (¬ s0 = (34 : Int32) → ((s0 = (42 : Int32) → (v_Code_add_0 I2 n3 f3 n4 f4 (0 : Int32) (0 : Int32) (fun u => (v_Reader_addCommon_138 I0 n1 f1 u.1 n3 u.2.1 n4 u.2.2  Z_3)))) ∧ (¬ s0 = (42 : Int32) → ((s0 = (91 : Int32) → (v_Code_add_0 I2 n3 f3 n4 f4 (0 : Int32) (0 : Int32) (fun u => (v_Reader_addCommon_138 I0 n1 f1 u.1 n3 u.2.1 n4 u.2.2  Z_3)))) ∧ (¬ s0 = (91 : Int32) → ((s0 = (92 : Int32) → (v_Reader_sign_0 I0 n1 f1 (x1 + (1 : Int32)) (fun r u => (v_Reader_addCommon_110 I0 n1 f1 I2 n3 f3 n4 f4 (1 : Int32) r  Z_3)))) ∧ (¬ s0 = (92 : Int32) → ((s0 = (95 : Int32) → (v_Code_add_0 I2 n3 f3 n4 f4 (1 : Int32) (32 : Int32) (fun u => (v_Reader_addCommon_126 I0 n1 f1 u.1 n3 u.2.1 n4 u.2.2  Z_3)))) ∧ (¬ s0 = (95 : Int32) → (v_Reader_sign_0 I0 n1 f1 x1 (fun r u => (v_Reader_addCommon_151 I0 n1 f1 I2 n3 f3 n4 f4 (1 : Int32) r  Z_3))))))))))))))) : v_Reader_addCommon_5 I0 n1 f1 I2 n3 f3 n4 f4 x1 x2 s0 Z_1 → v_Reader_addCommon_5 I0 n1 f1 I2 n3 f3 n4 f4 x1 x2 s0 Z_2 → v_Reader_addCommon_5 I0 n1 f1 I2 n3 f3 n4 f4 x1 x2 s0 Z_3 := h
theorem y_Reader_addCommon_0 {I0 : Nat → Int32} {n1 : Nat} {f1 : Nat → Int32} {I2 : Nat → Int32} {n3 : Nat} {f3 : Nat → Int32} {n4 : Nat} {f4 : Nat → Int32} {x1 : Int32} {x2 : Int32} {Z_1 Z_2 Z_3 : (Nat → Int32) × (Nat → Int32) × (Nat → Int32) → Prop} (h : ((v_Reader_sign_0 I0 n1 f1 x1 (fun r u => (v_Reader_addCommon_5 I0 n1 f1 I2 n3 f3 n4 f4 x1 x2 r  Z_1)))) → ((v_Reader_sign_0 I0 n1 f1 x1 (fun r u => (v_Reader_addCommon_5 I0 n1 f1 I2 n3 f3 n4 f4 x1 x2 r  Z_2)))) → ((v_Reader_sign_0 I0 n1 f1 x1 (fun r u => (v_Reader_addCommon_5 I0 n1 f1 I2 n3 f3 n4 f4 x1 x2 r  Z_3))))) : v_Reader_addCommon_0 I0 n1 f1 I2 n3 f3 n4 f4 x1 x2 Z_1 → v_Reader_addCommon_0 I0 n1 f1 I2 n3 f3 n4 f4 x1 x2 Z_2 → v_Reader_addCommon_0 I0 n1 f1 I2 n3 f3 n4 f4 x1 x2 Z_3 := h
theorem y_Reader_addOne_9 {I0 : Nat → Int32} {I1 : Nat → Int32} {n2 : Nat} {f2 : Nat → Int32} {n3 : Nat} {f3 : Nat → Int32} {Z_1 Z_2 Z_3 : Int32 → (Nat → Int32) × (Nat → Int32) × (Nat → Int32) → Prop} (h : ((Z_1 (1 : Int32) (I1, f2, f3))) → ((Z_2 (1 : Int32) (I1, f2, f3))) → ((Z_3 (1 : Int32) (I1, f2, f3)))) : v_Reader_addOne_9 I0 I1 n2 f2 n3 f3 Z_1 → v_Reader_addOne_9 I0 I1 n2 f2 n3 f3 Z_2 → v_Reader_addOne_9 I0 I1 n2 f2 n3 f3 Z_3 := h
theorem y_Reader_addOne_0 {I0 : Nat → Int32} {I1 : Nat → Int32} {n2 : Nat} {f2 : Nat → Int32} {n3 : Nat} {f3 : Nat → Int32} {x1 : Int32} {x2 : Int32} {Z_1 Z_2 Z_3 : Int32 → (Nat → Int32) × (Nat → Int32) × (Nat → Int32) → Prop} (h : ((v_Code_add_0 I1 n2 f2 n3 f3 x1 x2 (fun u => (v_Reader_addOne_9 I0 u.1 n2 u.2.1 n3 u.2.2  Z_1)))) → ((v_Code_add_0 I1 n2 f2 n3 f3 x1 x2 (fun u => (v_Reader_addOne_9 I0 u.1 n2 u.2.1 n3 u.2.2  Z_2)))) → ((v_Code_add_0 I1 n2 f2 n3 f3 x1 x2 (fun u => (v_Reader_addOne_9 I0 u.1 n2 u.2.1 n3 u.2.2  Z_3))))) : v_Reader_addOne_0 I0 I1 n2 f2 n3 f3 x1 x2 Z_1 → v_Reader_addOne_0 I0 I1 n2 f2 n3 f3 x1 x2 Z_2 → v_Reader_addOne_0 I0 I1 n2 f2 n3 f3 x1 x2 Z_3 := h
theorem y_Reader_readHalfDay_31 {I0 : Nat → Int32} {I1 : Nat → Int32} {I2 : Nat → Int32} {n3 : Nat} {f3 : Nat → Int32} {n4 : Nat} {f4 : Nat → Int32} {x1 : Int32} {Z_1 Z_2 Z_3 : Int32 → (Nat → Int32) × (Nat → Int32) × (Nat → Int32) × (Nat → Int32) → Prop} (h : ((Z_1 x1 (I1, I2, f3, f4))) → ((Z_2 x1 (I1, I2, f3, f4))) → ((Z_3 x1 (I1, I2, f3, f4)))) : v_Reader_readHalfDay_31 I0 I1 I2 n3 f3 n4 f4 x1 Z_1 → v_Reader_readHalfDay_31 I0 I1 I2 n3 f3 n4 f4 x1 Z_2 → v_Reader_readHalfDay_31 I0 I1 I2 n3 f3 n4 f4 x1 Z_3 := h
theorem y_Reader_readHalfDay_28 {I0 : Nat → Int32} {I1 : Nat → Int32} {I2 : Nat → Int32} {n3 : Nat} {f3 : Nat → Int32} {n4 : Nat} {f4 : Nat → Int32} {x1 : Int32} {s1 : Int32} {s2 : Int32} {Z_1 Z_2 Z_3 : Int32 → (Nat → Int32) × (Nat → Int32) × (Nat → Int32) × (Nat → Int32) → Prop} (h : ((v_Code_add_0 I2 n3 f3 n4 f4 s1 s2 (fun u => (v_Reader_readHalfDay_31 I0 I1 u.1 n3 u.2.1 n4 u.2.2 x1  Z_1)))) → ((v_Code_add_0 I2 n3 f3 n4 f4 s1 s2 (fun u => (v_Reader_readHalfDay_31 I0 I1 u.1 n3 u.2.1 n4 u.2.2 x1  Z_2)))) → ((v_Code_add_0 I2 n3 f3 n4 f4 s1 s2 (fun u => (v_Reader_readHalfDay_31 I0 I1 u.1 n3 u.2.1 n4 u.2.2 x1  Z_3))))) : v_Reader_readHalfDay_28 I0 I1 I2 n3 f3 n4 f4 x1 s1 s2 Z_1 → v_Reader_readHalfDay_28 I0 I1 I2 n3 f3 n4 f4 x1 s1 s2 Z_2 → v_Reader_readHalfDay_28 I0 I1 I2 n3 f3 n4 f4 x1 s1 s2 Z_3 := h
theorem y_Reader_readHalfDay_0 {I0 : Nat → Int32} {I1 : Nat → Int32} {I2 : Nat → Int32} {n3 : Nat} {f3 : Nat → Int32} {n4 : Nat} {f4 : Nat → Int32} {x1 : Int32} {Z_1 Z_2 Z_3 : Int32 → (Nat → Int32) × (Nat → Int32) × (Nat → Int32) × (Nat → Int32) → Prop} (h : (((x1 ≤ 0 → (v_Reader_readHalfDay_31 I0 I1 I2 n3 f3 n4 f4 x1  Z_1)) ∧ (¬ x1 ≤ 0 → ((¬ x1 = (5 : Int32) → (v_Reader_readHalfDay_28 I0 (zu I1 14 (1 : Int32)) I2 n3 f3 n4 f4 x1 (30 : Int32) (1 : Int32)  Z_1)) ∧ (x1 = (5 : Int32) → (v_Reader_readHalfDay_28 I0 (zu I1 14 (1 : Int32)) I2 n3 f3 n4 f4 x1 (30 : Int32) (2 : Int32)  Z_1)))))) → (((x1 ≤ 0 → (v_Reader_readHalfDay_31 I0 I1 I2 n3 f3 n4 f4 x1  Z_2)) ∧ (¬ x1 ≤ 0 → ((¬ x1 = (5 : Int32) → (v_Reader_readHalfDay_28 I0 (zu I1 14 (1 : Int32)) I2 n3 f3 n4 f4 x1 (30 : Int32) (1 : Int32)  Z_2)) ∧ (x1 = (5 : Int32) → (v_Reader_readHalfDay_28 I0 (zu I1 14 (1 : Int32)) I2 n3 f3 n4 f4 x1 (30 : Int32) (2 : Int32)  Z_2)))))) → (((x1 ≤ 0 → (v_Reader_readHalfDay_31 I0 I1 I2 n3 f3 n4 f4 x1  Z_3)) ∧ (¬ x1 ≤ 0 → ((¬ x1 = (5 : Int32) → (v_Reader_readHalfDay_28 I0 (zu I1 14 (1 : Int32)) I2 n3 f3 n4 f4 x1 (30 : Int32) (1 : Int32)  Z_3)) ∧ (x1 = (5 : Int32) → (v_Reader_readHalfDay_28 I0 (zu I1 14 (1 : Int32)) I2 n3 f3 n4 f4 x1 (30 : Int32) (2 : Int32)  Z_3))))))) : v_Reader_readHalfDay_0 I0 I1 I2 n3 f3 n4 f4 x1 Z_1 → v_Reader_readHalfDay_0 I0 I1 I2 n3 f3 n4 f4 x1 Z_2 → v_Reader_readHalfDay_0 I0 I1 I2 n3 f3 n4 f4 x1 Z_3 := h
theorem y_Reader_readInAll_52 {I0 : Nat → Int32} {n1 : Nat} {f1 : Nat → Int32} {I2 : Nat → Int32} {n3 : Nat} {f3 : Nat → Int32} {n4 : Nat} {f4 : Nat → Int32} {x2 : Int32} {Z_1 Z_2 Z_3 : Int32 → (Nat → Int32) × (Nat → Int32) × (Nat → Int32) → Prop} (h : ((Z_1 (x2 + (2 : Int32)) (I2, f3, f4))) → ((Z_2 (x2 + (2 : Int32)) (I2, f3, f4))) → ((Z_3 (x2 + (2 : Int32)) (I2, f3, f4)))) : v_Reader_readInAll_52 I0 n1 f1 I2 n3 f3 n4 f4 x2 Z_1 → v_Reader_readInAll_52 I0 n1 f1 I2 n3 f3 n4 f4 x2 Z_2 → v_Reader_readInAll_52 I0 n1 f1 I2 n3 f3 n4 f4 x2 Z_3 := h
theorem y_Reader_readInAll_48 {I0 : Nat → Int32} {n1 : Nat} {f1 : Nat → Int32} {I2 : Nat → Int32} {n3 : Nat} {f3 : Nat → Int32} {n4 : Nat} {f4 : Nat → Int32} {x2 : Int32} {s1 : Int32} {Z_1 Z_2 Z_3 : Int32 → (Nat → Int32) × (Nat → Int32) × (Nat → Int32) → Prop} (h : ((v_Code_add_0 I2 n3 f3 n4 f4 s1 x2 (fun u => (v_Reader_readInAll_52 I0 n1 f1 u.1 n3 u.2.1 n4 u.2.2 x2  Z_1)))) → ((v_Code_add_0 I2 n3 f3 n4 f4 s1 x2 (fun u => (v_Reader_readInAll_52 I0 n1 f1 u.1 n3 u.2.1 n4 u.2.2 x2  Z_2)))) → ((v_Code_add_0 I2 n3 f3 n4 f4 s1 x2 (fun u => (v_Reader_readInAll_52 I0 n1 f1 u.1 n3 u.2.1 n4 u.2.2 x2  Z_3))))) : v_Reader_readInAll_48 I0 n1 f1 I2 n3 f3 n4 f4 x2 s1 Z_1 → v_Reader_readInAll_48 I0 n1 f1 I2 n3 f3 n4 f4 x2 s1 Z_2 → v_Reader_readInAll_48 I0 n1 f1 I2 n3 f3 n4 f4 x2 s1 Z_3 := h
theorem y_Reader_readInAll_19 {I0 : Nat → Int32} {n1 : Nat} {f1 : Nat → Int32} {I2 : Nat → Int32} {n3 : Nat} {f3 : Nat → Int32} {n4 : Nat} {f4 : Nat → Int32} {x2 : Int32} {s0 : Int32} {Z_1 Z_2 Z_3 : Int32 → (Nat → Int32) × (Nat → Int32) × (Nat → Int32) → Prop} (h : (((¬ s0 = (104 : Int32) → ((¬ s0 = (109 : Int32) → (v_Reader_readInAll_48 I0 n1 f1 I2 n3 f3 n4 f4 x2 (28 : Int32)  Z_1)) ∧ (s0 = (109 : Int32) → (v_Reader_readInAll_48 I0 n1 f1 I2 n3 f3 n4 f4 x2 (27 : Int32)  Z_1)))) ∧ (s0 = (104 : Int32) → (v_Reader_readInAll_48 I0 n1 f1 I2 n3 f3 n4 f4 x2 (26 : Int32)  Z_1)))) → (((¬ s0 = (104 : Int32) → ((¬ s0 = (109 : Int32) → (v_Reader_readInAll_48 I0 n1 f1 I2 n3 f3 n4 f4 x2 (28 : Int32)  Z_2)) ∧ (s0 = (109 : Int32) → (v_Reader_readInAll_48 I0 n1 f1 I2 n3 f3 n4 f4 x2 (27 : Int32)  Z_2)))) ∧ (s0 = (104 : Int32) → (v_Reader_readInAll_48 I0 n1 f1 I2 n3 f3 n4 f4 x2 (26 : Int32)  Z_2)))) → (((¬ s0 = (104 : Int32) → ((¬ s0 = (109 : Int32) → (v_Reader_readInAll_48 I0 n1 f1 I2 n3 f3 n4 f4 x2 (28 : Int32)  Z_3)) ∧ (s0 = (109 : Int32) → (v_Reader_readInAll_48 I0 n1 f1 I2 n3 f3 n4 f4 x2 (27 : Int32)  Z_3)))) ∧ (s0 = (104 : Int32) → (v_Reader_readInAll_48 I0 n1 f1 I2 n3 f3 n4 f4 x2 (26 : Int32)  Z_3))))) : v_Reader_readInAll_19 I0 n1 f1 I2 n3 f3 n4 f4 x2 s0 Z_1 → v_Reader_readInAll_19 I0 n1 f1 I2 n3 f3 n4 f4 x2 s0 Z_2 → v_Reader_readInAll_19 I0 n1 f1 I2 n3 f3 n4 f4 x2 s0 Z_3 := h
theorem y_Reader_readInAll_0 {I0 : Nat → Int32} {n1 : Nat} {f1 : Nat → Int32} {I2 : Nat → Int32} {n3 : Nat} {f3 : Nat → Int32} {n4 : Nat} {f4 : Nat → Int32} {x1 : Int32} {x2 : Int32} {Z_1 Z_2 Z_3 : Int32 → (Nat → Int32) × (Nat → Int32) × (Nat → Int32) → Prop} (h : (((x2 < (1 : Int32) → (Z_1 (0 : Int32) (I2, f3, f4))) ∧ (¬ x2 < (1 : Int32) → ((x2 ≤ (2 : Int32) → (v_Reader_small_0 I0 n1 f1 (x1 + (1 : Int32)) (fun r u => (v_Reader_readInAll_19 I0 n1 f1 I2 n3 f3 n4 f4 x2 r  Z_1)))) ∧ (¬ x2 ≤ (2 : Int32) → (Z_1 (0 : Int32) (I2, f3, f4))))))) → (((x2 < (1 : Int32) → (Z_2 (0 : Int32) (I2, f3, f4))) ∧ (¬ x2 < (1 : Int32) → ((x2 ≤ (2 : Int32) → (v_Reader_small_0 I0 n1 f1 (x1 + (1 : Int32)) (fun r u => (v_Reader_readInAll_19 I0 n1 f1 I2 n3 f3 n4 f4 x2 r  Z_2)))) ∧ (¬ x2 ≤ (2 : Int32) → (Z_2 (0 : Int32) (I2, f3, f4))))))) → (((x2 < (1 : Int32) → (Z_3 (0 : Int32) (I2, f3, f4))) ∧ (¬ x2 < (1 : Int32) → ((x2 ≤ (2 : Int32) → (v_Reader_small_0 I0 n1 f1 (x1 + (1 : Int32)) (fun r u => (v_Reader_readInAll_19 I0 n1 f1 I2 n3 f3 n4 f4 x2 r  Z_3)))) ∧ (¬ x2 ≤ (2 : Int32) → (Z_3 (0 : Int32) (I2, f3, f4)))))))) : v_Reader_readInAll_0 I0 n1 f1 I2 n3 f3 n4 f4 x1 x2 Z_1 → v_Reader_readInAll_0 I0 n1 f1 I2 n3 f3 n4 f4 x1 x2 Z_2 → v_Reader_readInAll_0 I0 n1 f1 I2 n3 f3 n4 f4 x1 x2 Z_3 := h
theorem y_Reader_kindBefore_29 {I0 : Nat → Int32} {I1 : Nat → Int32} {I2 : Nat → Int32} {n3 : Nat} {f3 : Nat → Int32} {s0 : Int32} {Z_1 Z_2 Z_3 : Int32 → Unit → Prop} (h : ((Z_1 s0 ())) → ((Z_2 s0 ())) → ((Z_3 s0 ()))) : v_Reader_kindBefore_29 I0 I1 I2 n3 f3 s0 Z_1 → v_Reader_kindBefore_29 I0 I1 I2 n3 f3 s0 Z_2 → v_Reader_kindBefore_29 I0 I1 I2 n3 f3 s0 Z_3 := h
theorem y_Reader_kindBefore_0 {I0 : Nat → Int32} {I1 : Nat → Int32} {I2 : Nat → Int32} {n3 : Nat} {f3 : Nat → Int32} {Z_1 Z_2 Z_3 : Int32 → Unit → Prop} (h : (((((I1 4) - (1 : Int32)) < (I2 1) → (Z_1 (0 : Int32) ())) ∧ (¬ ((I1 4) - (1 : Int32)) < (I2 1) → (v_Code_kind_0 I1 n3 f3 ((I1 4) - (1 : Int32)) (fun r u => (v_Reader_kindBefore_29 I0 I1 I2 n3 f3 r  Z_1)))))) → (((((I1 4) - (1 : Int32)) < (I2 1) → (Z_2 (0 : Int32) ())) ∧ (¬ ((I1 4) - (1 : Int32)) < (I2 1) → (v_Code_kind_0 I1 n3 f3 ((I1 4) - (1 : Int32)) (fun r u => (v_Reader_kindBefore_29 I0 I1 I2 n3 f3 r  Z_2)))))) → (((((I1 4) - (1 : Int32)) < (I2 1) → (Z_3 (0 : Int32) ())) ∧ (¬ ((I1 4) - (1 : Int32)) < (I2 1) → (v_Code_kind_0 I1 n3 f3 ((I1 4) - (1 : Int32)) (fun r u => (v_Reader_kindBefore_29 I0 I1 I2 n3 f3 r  Z_3))))))) : v_Reader_kindBefore_0 I0 I1 I2 n3 f3 Z_1 → v_Reader_kindBefore_0 I0 I1 I2 n3 f3 Z_2 → v_Reader_kindBefore_0 I0 I1 I2 n3 f3 Z_3 := h
theorem y_Reader_readParts_52 {I0 : Nat → Int32} {I1 : Nat → Int32} {I2 : Nat → Int32} {n3 : Nat} {f3 : Nat → Int32} {n4 : Nat} {f4 : Nat → Int32} {n5 : Nat} {f5 : Nat → Int32} {s0 : Int32} {Z_1 Z_2 Z_3 : Int32 → (Nat → Int32) × (Nat → Int32) × (Nat → Int32) × (Nat → Int32) → Prop} (h : ((Z_1 s0 (I1, I2, f3, f5))) → ((Z_2 s0 (I1, I2, f3, f5))) → ((Z_3 s0 (I1, I2, f3, f5)))) : v_Reader_readParts_52 I0 I1 I2 n3 f3 n4 f4 n5 f5 s0 Z_1 → v_Reader_readParts_52 I0 I1 I2 n3 f3 n4 f4 n5 f5 s0 Z_2 → v_Reader_readParts_52 I0 I1 I2 n3 f3 n4 f4 n5 f5 s0 Z_3 := h
theorem y_Reader_readParts_45 {I0 : Nat → Int32} {I1 : Nat → Int32} {I2 : Nat → Int32} {n3 : Nat} {f3 : Nat → Int32} {n4 : Nat} {f4 : Nat → Int32} {n5 : Nat} {f5 : Nat → Int32} {Z_1 Z_2 Z_3 : Int32 → (Nat → Int32) × (Nat → Int32) × (Nat → Int32) × (Nat → Int32) → Prop} (h : ((v_Reader_addOne_0 I0 I1 n3 f3 n5 f5 (1 : Int32) (46 : Int32) (fun r u => (v_Reader_readParts_52 I0 u.1 I2 n3 u.2.1 n4 f4 n5 u.2.2 r  Z_1)))) → ((v_Reader_addOne_0 I0 I1 n3 f3 n5 f5 (1 : Int32) (46 : Int32) (fun r u => (v_Reader_readParts_52 I0 u.1 I2 n3 u.2.1 n4 f4 n5 u.2.2 r  Z_2)))) → ((v_Reader_addOne_0 I0 I1 n3 f3 n5 f5 (1 : Int32) (46 : Int32) (fun r u => (v_Reader_readParts_52 I0 u.1 I2 n3 u.2.1 n4 f4 n5 u.2.2 r  Z_3))))) : v_Reader_readParts_45 I0 I1 I2 n3 f3 n4 f4 n5 f5 Z_1 → v_Reader_readParts_45 I0 I1 I2 n3 f3 n4 f4 n5 f5 Z_2 → v_Reader_readParts_45 I0 I1 I2 n3 f3 n4 f4 n5 f5 Z_3 := h
theorem y_Reader_readParts_88 {I0 : Nat → Int32} {I1 : Nat → Int32} {I2 : Nat → Int32} {n3 : Nat} {f3 : Nat → Int32} {n4 : Nat} {f4 : Nat → Int32} {n5 : Nat} {f5 : Nat → Int32} {x3 : Int32} {Z_1 Z_2 Z_3 : Int32 → (Nat → Int32) × (Nat → Int32) × (Nat → Int32) × (Nat → Int32) → Prop} (h : ((Z_1 ((1 : Int32) + x3) (I1, I2, f3, f5))) → ((Z_2 ((1 : Int32) + x3) (I1, I2, f3, f5))) → ((Z_3 ((1 : Int32) + x3) (I1, I2, f3, f5)))) : v_Reader_readParts_88 I0 I1 I2 n3 f3 n4 f4 n5 f5 x3 Z_1 → v_Reader_readParts_88 I0 I1 I2 n3 f3 n4 f4 n5 f5 x3 Z_2 → v_Reader_readParts_88 I0 I1 I2 n3 f3 n4 f4 n5 f5 x3 Z_3 := h
theorem y_Reader_readParts_53 {I0 : Nat → Int32} {I1 : Nat → Int32} {I2 : Nat → Int32} {n3 : Nat} {f3 : Nat → Int32} {n4 : Nat} {f4 : Nat → Int32} {n5 : Nat} {f5 : Nat → Int32} {x3 : Int32} {Z_1 Z_2 Z_3 : Int32 → (Nat → Int32) × (Nat → Int32) × (Nat → Int32) × (Nat → Int32) → Prop} (h : (((x3 ≤ (3 : Int32) → (v_Code_add_0 I1 n3 f3 n5 f5 (29 : Int32) x3 (fun u => (v_Reader_readParts_88 I0 u.1 (zu I2 13 (zmax (I2 13) x3)) n3 u.2.1 n4 f4 n5 u.2.2 x3  Z_1)))) ∧ (¬ x3 ≤ (3 : Int32) → (Z_1 (0 : Int32) (I1, I2, f3, f5))))) → (((x3 ≤ (3 : Int32) → (v_Code_add_0 I1 n3 f3 n5 f5 (29 : Int32) x3 (fun u => (v_Reader_readParts_88 I0 u.1 (zu I2 13 (zmax (I2 13) x3)) n3 u.2.1 n4 f4 n5 u.2.2 x3  Z_2)))) ∧ (¬ x3 ≤ (3 : Int32) → (Z_2 (0 : Int32) (I1, I2, f3, f5))))) → (((x3 ≤ (3 : Int32) → (v_Code_add_0 I1 n3 f3 n5 f5 (29 : Int32) x3 (fun u => (v_Reader_readParts_88 I0 u.1 (zu I2 13 (zmax (I2 13) x3)) n3 u.2.1 n4 f4 n5 u.2.2 x3  Z_3)))) ∧ (¬ x3 ≤ (3 : Int32) → (Z_3 (0 : Int32) (I1, I2, f3, f5)))))) : v_Reader_readParts_53 I0 I1 I2 n3 f3 n4 f4 n5 f5 x3 Z_1 → v_Reader_readParts_53 I0 I1 I2 n3 f3 n4 f4 n5 f5 x3 Z_2 → v_Reader_readParts_53 I0 I1 I2 n3 f3 n4 f4 n5 f5 x3 Z_3 := h
theorem y_Reader_readParts_28 {I0 : Nat → Int32} {I1 : Nat → Int32} {I2 : Nat → Int32} {n3 : Nat} {f3 : Nat → Int32} {n4 : Nat} {f4 : Nat → Int32} {n5 : Nat} {f5 : Nat → Int32} {x2 : Int32} {s0 : Int32} {Z_1 Z_2 Z_3 : Int32 → (Nat → Int32) × (Nat → Int32) × (Nat → Int32) × (Nat → Int32) → Prop} (h : (((s0 = 0 → (v_Reader_readParts_45 I0 I1 I2 n3 f3 n4 f4 n5 f5  Z_1)) ∧ (¬ s0 = 0 → ((x2 = (25 : Int32) → (v_Reader_readParts_53 I0 I1 I2 n3 f3 n4 f4 n5 f5 s0  Z_1)) ∧ (¬ x2 = (25 : Int32) → ((x2 = (28 : Int32) → (v_Reader_readParts_53 I0 I1 I2 n3 f3 n4 f4 n5 f5 s0  Z_1)) ∧ (¬ x2 = (28 : Int32) → (v_Reader_readParts_45 I0 I1 I2 n3 f3 n4 f4 n5 f5  Z_1)))))))) → (((s0 = 0 → (v_Reader_readParts_45 I0 I1 I2 n3 f3 n4 f4 n5 f5  Z_2)) ∧ (¬ s0 = 0 → ((x2 = (25 : Int32) → (v_Reader_readParts_53 I0 I1 I2 n3 f3 n4 f4 n5 f5 s0  Z_2)) ∧ (¬ x2 = (25 : Int32) → ((x2 = (28 : Int32) → (v_Reader_readParts_53 I0 I1 I2 n3 f3 n4 f4 n5 f5 s0  Z_2)) ∧ (¬ x2 = (28 : Int32) → (v_Reader_readParts_45 I0 I1 I2 n3 f3 n4 f4 n5 f5  Z_2)))))))) → (((s0 = 0 → (v_Reader_readParts_45 I0 I1 I2 n3 f3 n4 f4 n5 f5  Z_3)) ∧ (¬ s0 = 0 → ((x2 = (25 : Int32) → (v_Reader_readParts_53 I0 I1 I2 n3 f3 n4 f4 n5 f5 s0  Z_3)) ∧ (¬ x2 = (25 : Int32) → ((x2 = (28 : Int32) → (v_Reader_readParts_53 I0 I1 I2 n3 f3 n4 f4 n5 f5 s0  Z_3)) ∧ (¬ x2 = (28 : Int32) → (v_Reader_readParts_45 I0 I1 I2 n3 f3 n4 f4 n5 f5  Z_3))))))))) : v_Reader_readParts_28 I0 I1 I2 n3 f3 n4 f4 n5 f5 x2 s0 Z_1 → v_Reader_readParts_28 I0 I1 I2 n3 f3 n4 f4 n5 f5 x2 s0 Z_2 → v_Reader_readParts_28 I0 I1 I2 n3 f3 n4 f4 n5 f5 x2 s0 Z_3 := h
theorem y_Reader_readParts_24 {I0 : Nat → Int32} {I1 : Nat → Int32} {I2 : Nat → Int32} {n3 : Nat} {f3 : Nat → Int32} {n4 : Nat} {f4 : Nat → Int32} {n5 : Nat} {f5 : Nat → Int32} {x2 : Int32} {s0 : Int32} {Z_1 Z_2 Z_3 : Int32 → (Nat → Int32) × (Nat → Int32) × (Nat → Int32) × (Nat → Int32) → Prop} (h : ((v_Reader_readParts_28 I0 I1 I2 n3 f3 n4 f4 n5 f5 x2 s0  Z_1)) → ((v_Reader_readParts_28 I0 I1 I2 n3 f3 n4 f4 n5 f5 x2 s0  Z_2)) → ((v_Reader_readParts_28 I0 I1 I2 n3 f3 n4 f4 n5 f5 x2 s0  Z_3))) : v_Reader_readParts_24 I0 I1 I2 n3 f3 n4 f4 n5 f5 x2 s0 Z_1 → v_Reader_readParts_24 I0 I1 I2 n3 f3 n4 f4 n5 f5 x2 s0 Z_2 → v_Reader_readParts_24 I0 I1 I2 n3 f3 n4 f4 n5 f5 x2 s0 Z_3 := h
theorem y_Reader_readParts_12 {I0 : Nat → Int32} {I1 : Nat → Int32} {I2 : Nat → Int32} {n3 : Nat} {f3 : Nat → Int32} {n4 : Nat} {f4 : Nat → Int32} {n5 : Nat} {f5 : Nat → Int32} {x1 : Int32} {x2 : Int32} {s0 : Int32} {Z_1 Z_2 Z_3 : Int32 → (Nat → Int32) × (Nat → Int32) × (Nat → Int32) × (Nat → Int32) → Prop} (h : (((¬ s0 = (48 : Int32) → (v_Reader_readParts_28 I0 I1 I2 n3 f3 n4 f4 n5 f5 x2 (0 : Int32)  Z_1)) ∧ (s0 = (48 : Int32) → (v_Reader_rowLength_0 I0 n4 f4 (x1 + (1 : Int32)) (fun r u => (v_Reader_readParts_24 I0 I1 I2 n3 f3 n4 f4 n5 f5 x2 r  Z_1)))))) → (((¬ s0 = (48 : Int32) → (v_Reader_readParts_28 I0 I1 I2 n3 f3 n4 f4 n5 f5 x2 (0 : Int32)  Z_2)) ∧ (s0 = (48 : Int32) → (v_Reader_rowLength_0 I0 n4 f4 (x1 + (1 : Int32)) (fun r u => (v_Reader_readParts_24 I0 I1 I2 n3 f3 n4 f4 n5 f5 x2 r  Z_2)))))) → (((¬ s0 = (48 : Int32) → (v_Reader_readParts_28 I0 I1 I2 n3 f3 n4 f4 n5 f5 x2 (0 : Int32)  Z_3)) ∧ (s0 = (48 : Int32) → (v_Reader_rowLength_0 I0 n4 f4 (x1 + (1 : Int32)) (fun r u => (v_Reader_readParts_24 I0 I1 I2 n3 f3 n4 f4 n5 f5 x2 r  Z_3))))))) : v_Reader_readParts_12 I0 I1 I2 n3 f3 n4 f4 n5 f5 x1 x2 s0 Z_1 → v_Reader_readParts_12 I0 I1 I2 n3 f3 n4 f4 n5 f5 x1 x2 s0 Z_2 → v_Reader_readParts_12 I0 I1 I2 n3 f3 n4 f4 n5 f5 x1 x2 s0 Z_3 := h
theorem y_Reader_readParts_4 {I0 : Nat → Int32} {I1 : Nat → Int32} {I2 : Nat → Int32} {n3 : Nat} {f3 : Nat → Int32} {n4 : Nat} {f4 : Nat → Int32} {n5 : Nat} {f5 : Nat → Int32} {x1 : Int32} {s0 : Int32} {Z_1 Z_2 Z_3 : Int32 → (Nat → Int32) × (Nat → Int32) × (Nat → Int32) × (Nat → Int32) → Prop} (h : ((v_Reader_sign_0 I0 n4 f4 (x1 + (1 : Int32)) (fun r u => (v_Reader_readParts_12 I0 I1 I2 n3 f3 n4 f4 n5 f5 x1 s0 r  Z_1)))) → ((v_Reader_sign_0 I0 n4 f4 (x1 + (1 : Int32)) (fun r u => (v_Reader_readParts_12 I0 I1 I2 n3 f3 n4 f4 n5 f5 x1 s0 r  Z_2)))) → ((v_Reader_sign_0 I0 n4 f4 (x1 + (1 : Int32)) (fun r u => (v_Reader_readParts_12 I0 I1 I2 n3 f3 n4 f4 n5 f5 x1 s0 r  Z_3))))) : v_Reader_readParts_4 I0 I1 I2 n3 f3 n4 f4 n5 f5 x1 s0 Z_1 → v_Reader_readParts_4 I0 I1 I2 n3 f3 n4 f4 n5 f5 x1 s0 Z_2 → v_Reader_readParts_4 I0 I1 I2 n3 f3 n4 f4 n5 f5 x1 s0 Z_3 := h
theorem y_Reader_readParts_0 {I0 : Nat → Int32} {I1 : Nat → Int32} {I2 : Nat → Int32} {n3 : Nat} {f3 : Nat → Int32} {n4 : Nat} {f4 : Nat → Int32} {n5 : Nat} {f5 : Nat → Int32} {x1 : Int32} {Z_1 Z_2 Z_3 : Int32 → (Nat → Int32) × (Nat → Int32) × (Nat → Int32) × (Nat → Int32) → Prop} (h : ((v_Reader_kindBefore_0 I0 I1 I2 n3 f3 (fun r u => (v_Reader_readParts_4 I0 I1 I2 n3 f3 n4 f4 n5 f5 x1 r  Z_1)))) → ((v_Reader_kindBefore_0 I0 I1 I2 n3 f3 (fun r u => (v_Reader_readParts_4 I0 I1 I2 n3 f3 n4 f4 n5 f5 x1 r  Z_2)))) → ((v_Reader_kindBefore_0 I0 I1 I2 n3 f3 (fun r u => (v_Reader_readParts_4 I0 I1 I2 n3 f3 n4 f4 n5 f5 x1 r  Z_3))))) : v_Reader_readParts_0 I0 I1 I2 n3 f3 n4 f4 n5 f5 x1 Z_1 → v_Reader_readParts_0 I0 I1 I2 n3 f3 n4 f4 n5 f5 x1 Z_2 → v_Reader_readParts_0 I0 I1 I2 n3 f3 n4 f4 n5 f5 x1 Z_3 := h
theorem y_Reader_addRow_9 {I0 : Nat → Int32} {I1 : Nat → Int32} {n2 : Nat} {f2 : Nat → Int32} {n3 : Nat} {f3 : Nat → Int32} {x2 : Int32} {Z_1 Z_2 Z_3 : Int32 → (Nat → Int32) × (Nat → Int32) × (Nat → Int32) → Prop} (h : ((Z_1 x2 (I1, f2, f3))) → ((Z_2 x2 (I1, f2, f3))) → ((Z_3 x2 (I1, f2, f3)))) : v_Reader_addRow_9 I0 I1 n2 f2 n3 f3 x2 Z_1 → v_Reader_addRow_9 I0 I1 n2 f2 n3 f3 x2 Z_2 → v_Reader_addRow_9 I0 I1 n2 f2 n3 f3 x2 Z_3 := h
theorem y_Reader_addRow_0 {I0 : Nat → Int32} {I1 : Nat → Int32} {n2 : Nat} {f2 : Nat → Int32} {n3 : Nat} {f3 : Nat → Int32} {x1 : Int32} {x2 : Int32} {Z_1 Z_2 Z_3 : Int32 → (Nat → Int32) × (Nat → Int32) × (Nat → Int32) → Prop} (h : ((v_Code_add_0 I1 n2 f2 n3 f3 x1 x2 (fun u => (v_Reader_addRow_9 I0 u.1 n2 u.2.1 n3 u.2.2 x2  Z_1)))) → ((v_Code_add_0 I1 n2 f2 n3 f3 x1 x2 (fun u => (v_Reader_addRow_9 I0 u.1 n2 u.2.1 n3 u.2.2 x2  Z_2)))) → ((v_Code_add_0 I1 n2 f2 n3 f3 x1 x2 (fun u => (v_Reader_addRow_9 I0 u.1 n2 u.2.1 n3 u.2.2 x2  Z_3))))) : v_Reader_addRow_0 I0 I1 n2 f2 n3 f3 x1 x2 Z_1 → v_Reader_addRow_0 I0 I1 n2 f2 n3 f3 x1 x2 Z_2 → v_Reader_addRow_0 I0 I1 n2 f2 n3 f3 x1 x2 Z_3 := h
theorem y_Reader_readRow_116 {I0 : Nat → Int32} {n1 : Nat} {f1 : Nat → Int32} {I2 : Nat → Int32} {n3 : Nat} {f3 : Nat → Int32} {n4 : Nat} {f4 : Nat → Int32} {s0 : Int32} {Z_1 Z_2 Z_3 : Int32 → (Nat → Int32) × (Nat → Int32) × (Nat → Int32) → Prop} (h : ((Z_1 s0 (I2, f3, f4))) → ((Z_2 s0 (I2, f3, f4))) → ((Z_3 s0 (I2, f3, f4)))) : v_Reader_readRow_116 I0 n1 f1 I2 n3 f3 n4 f4 s0 Z_1 → v_Reader_readRow_116 I0 n1 f1 I2 n3 f3 n4 f4 s0 Z_2 → v_Reader_readRow_116 I0 n1 f1 I2 n3 f3 n4 f4 s0 Z_3 := h
theorem y_Reader_readRow_133 {I0 : Nat → Int32} {n1 : Nat} {f1 : Nat → Int32} {I2 : Nat → Int32} {n3 : Nat} {f3 : Nat → Int32} {n4 : Nat} {f4 : Nat → Int32} {s0 : Int32} {Z_1 Z_2 Z_3 : Int32 → (Nat → Int32) × (Nat → Int32) × (Nat → Int32) → Prop} (h : ((Z_1 s0 (I2, f3, f4))) → ((Z_2 s0 (I2, f3, f4))) → ((Z_3 s0 (I2, f3, f4)))) : v_Reader_readRow_133 I0 n1 f1 I2 n3 f3 n4 f4 s0 Z_1 → v_Reader_readRow_133 I0 n1 f1 I2 n3 f3 n4 f4 s0 Z_2 → v_Reader_readRow_133 I0 n1 f1 I2 n3 f3 n4 f4 s0 Z_3 := h
theorem y_Reader_readRow_65 {I0 : Nat → Int32} {n1 : Nat} {f1 : Nat → Int32} {I2 : Nat → Int32} {n3 : Nat} {f3 : Nat → Int32} {n4 : Nat} {f4 : Nat → Int32} {s0 : Int32} {Z_1 Z_2 Z_3 : Int32 → (Nat → Int32) × (Nat → Int32) × (Nat → Int32) → Prop} (h : ((Z_1 s0 (I2, f3, f4))) → ((Z_2 s0 (I2, f3, f4))) → ((Z_3 s0 (I2, f3, f4)))) : v_Reader_readRow_65 I0 n1 f1 I2 n3 f3 n4 f4 s0 Z_1 → v_Reader_readRow_65 I0 n1 f1 I2 n3 f3 n4 f4 s0 Z_2 → v_Reader_readRow_65 I0 n1 f1 I2 n3 f3 n4 f4 s0 Z_3 := h
theorem y_Reader_readRow_58 {I0 : Nat → Int32} {n1 : Nat} {f1 : Nat → Int32} {I2 : Nat → Int32} {n3 : Nat} {f3 : Nat → Int32} {n4 : Nat} {f4 : Nat → Int32} {x3 : Int32} {Z_1 Z_2 Z_3 : Int32 → (Nat → Int32) × (Nat → Int32) × (Nat → Int32) → Prop} (h : ((v_Reader_addRow_0 I0 I2 n3 f3 n4 f4 (20 : Int32) x3 (fun r u => (v_Reader_readRow_65 I0 n1 f1 u.1 n3 u.2.1 n4 u.2.2 r  Z_1)))) → ((v_Reader_addRow_0 I0 I2 n3 f3 n4 f4 (20 : Int32) x3 (fun r u => (v_Reader_readRow_65 I0 n1 f1 u.1 n3 u.2.1 n4 u.2.2 r  Z_2)))) → ((v_Reader_addRow_0 I0 I2 n3 f3 n4 f4 (20 : Int32) x3 (fun r u => (v_Reader_readRow_65 I0 n1 f1 u.1 n3 u.2.1 n4 u.2.2 r  Z_3))))) : v_Reader_readRow_58 I0 n1 f1 I2 n3 f3 n4 f4 x3 Z_1 → v_Reader_readRow_58 I0 n1 f1 I2 n3 f3 n4 f4 x3 Z_2 → v_Reader_readRow_58 I0 n1 f1 I2 n3 f3 n4 f4 x3 Z_3 := h
theorem y_Reader_readRow_82 {I0 : Nat → Int32} {n1 : Nat} {f1 : Nat → Int32} {I2 : Nat → Int32} {n3 : Nat} {f3 : Nat → Int32} {n4 : Nat} {f4 : Nat → Int32} {s0 : Int32} {Z_1 Z_2 Z_3 : Int32 → (Nat → Int32) × (Nat → Int32) × (Nat → Int32) → Prop} (h : ((Z_1 s0 (I2, f3, f4))) → ((Z_2 s0 (I2, f3, f4))) → ((Z_3 s0 (I2, f3, f4)))) : v_Reader_readRow_82 I0 n1 f1 I2 n3 f3 n4 f4 s0 Z_1 → v_Reader_readRow_82 I0 n1 f1 I2 n3 f3 n4 f4 s0 Z_2 → v_Reader_readRow_82 I0 n1 f1 I2 n3 f3 n4 f4 s0 Z_3 := h
theorem y_Reader_readRow_99 {I0 : Nat → Int32} {n1 : Nat} {f1 : Nat → Int32} {I2 : Nat → Int32} {n3 : Nat} {f3 : Nat → Int32} {n4 : Nat} {f4 : Nat → Int32} {s0 : Int32} {Z_1 Z_2 Z_3 : Int32 → (Nat → Int32) × (Nat → Int32) × (Nat → Int32) → Prop} (h : ((Z_1 s0 (I2, f3, f4))) → ((Z_2 s0 (I2, f3, f4))) → ((Z_3 s0 (I2, f3, f4)))) : v_Reader_readRow_99 I0 n1 f1 I2 n3 f3 n4 f4 s0 Z_1 → v_Reader_readRow_99 I0 n1 f1 I2 n3 f3 n4 f4 s0 Z_2 → v_Reader_readRow_99 I0 n1 f1 I2 n3 f3 n4 f4 s0 Z_3 := h
theorem y_Reader_readRow_5 {I0 : Nat → Int32} {n1 : Nat} {f1 : Nat → Int32} {I2 : Nat → Int32} {n3 : Nat} {f3 : Nat → Int32} {n4 : Nat} {f4 : Nat → Int32} {x2 : Int32} {s0 : Int32} {Z_1 Z_2 Z_3 : Int32 → (Nat → Int32) × (Nat → Int32) × (Nat → Int32) → Prop} (h : (((x2 = (100 : Int32) → (((4 : Int32) < s0 → (Z_1 (0 : Int32) (I2, f3, f4))) ∧ (¬ (4 : Int32) < s0 → (v_Reader_addRow_0 I0 I2 n3 f3 n4 f4 (22 : Int32) s0 (fun r u => (v_Reader_readRow_99 I0 n1 f1 u.1 n3 u.2.1 n4 u.2.2 r  Z_1)))))) ∧ (¬ x2 = (100 : Int32) → ((x2 = (104 : Int32) → (((2 : Int32) < s0 → (Z_1 (0 : Int32) (I2, f3, f4))) ∧ (¬ (2 : Int32) < s0 → (v_Reader_addRow_0 I0 I2 n3 f3 n4 f4 (23 : Int32) s0 (fun r u => (v_Reader_readRow_116 I0 n1 f1 u.1 n3 u.2.1 n4 u.2.2 r  Z_1)))))) ∧ (¬ x2 = (104 : Int32) → ((x2 = (109 : Int32) → (((5 : Int32) < s0 → (Z_1 (0 : Int32) (I2, f3, f4))) ∧ (¬ (5 : Int32) < s0 → (v_Reader_addRow_0 I0 I2 n3 f3 n4 f4 (21 : Int32) s0 (fun r u => (v_Reader_readRow_82 I0 n1 f1 u.1 n3 u.2.1 n4 u.2.2 r  Z_1)))))) ∧ (¬ x2 = (109 : Int32) → ((x2 = (121 : Int32) → ((s0 = (2 : Int32) → (v_Reader_readRow_58 I0 n1 f1 I2 n3 f3 n4 f4 s0  Z_1)) ∧ (¬ s0 = (2 : Int32) → ((¬ s0 = (4 : Int32) → (Z_1 (0 : Int32) (I2, f3, f4))) ∧ (s0 = (4 : Int32) → (v_Reader_readRow_58 I0 n1 f1 I2 n3 f3 n4 f4 s0  Z_1)))))) ∧ (¬ x2 = (121 : Int32) → (((2 : Int32) < s0 → (Z_1 (0 : Int32) (I2, f3, f4))) ∧ (¬ (2 : Int32) < s0 → (v_Reader_addRow_0 I0 I2 n3 f3 n4 f4 (25 : Int32) s0 (fun r u => (v_Reader_readRow_133 I0 n1 f1 u.1 n3 u.2.1 n4 u.2.2 r  Z_1)))))))))))))) → (((x2 = (100 : Int32) → (((4 : Int32) < s0 → (Z_2 (0 : Int32) (I2, f3, f4))) ∧ (¬ (4 : Int32) < s0 → (v_Reader_addRow_0 I0 I2 n3 f3 n4 f4 (22 : Int32) s0 (fun r u => (v_Reader_readRow_99 I0 n1 f1 u.1 n3 u.2.1 n4 u.2.2 r  Z_2)))))) ∧ (¬ x2 = (100 : Int32) → ((x2 = (104 : Int32) → (((2 : Int32) < s0 → (Z_2 (0 : Int32) (I2, f3, f4))) ∧ (¬ (2 : Int32) < s0 → (v_Reader_addRow_0 I0 I2 n3 f3 n4 f4 (23 : Int32) s0 (fun r u => (v_Reader_readRow_116 I0 n1 f1 u.1 n3 u.2.1 n4 u.2.2 r  Z_2)))))) ∧ (¬ x2 = (104 : Int32) → ((x2 = (109 : Int32) → (((5 : Int32) < s0 → (Z_2 (0 : Int32) (I2, f3, f4))) ∧ (¬ (5 : Int32) < s0 → (v_Reader_addRow_0 I0 I2 n3 f3 n4 f4 (21 : Int32) s0 (fun r u => (v_Reader_readRow_82 I0 n1 f1 u.1 n3 u.2.1 n4 u.2.2 r  Z_2)))))) ∧ (¬ x2 = (109 : Int32) → ((x2 = (121 : Int32) → ((s0 = (2 : Int32) → (v_Reader_readRow_58 I0 n1 f1 I2 n3 f3 n4 f4 s0  Z_2)) ∧ (¬ s0 = (2 : Int32) → ((¬ s0 = (4 : Int32) → (Z_2 (0 : Int32) (I2, f3, f4))) ∧ (s0 = (4 : Int32) → (v_Reader_readRow_58 I0 n1 f1 I2 n3 f3 n4 f4 s0  Z_2)))))) ∧ (¬ x2 = (121 : Int32) → (((2 : Int32) < s0 → (Z_2 (0 : Int32) (I2, f3, f4))) ∧ (¬ (2 : Int32) < s0 → (v_Reader_addRow_0 I0 I2 n3 f3 n4 f4 (25 : Int32) s0 (fun r u => (v_Reader_readRow_133 I0 n1 f1 u.1 n3 u.2.1 n4 u.2.2 r  Z_2)))))))))))))) → (((x2 = (100 : Int32) → (((4 : Int32) < s0 → (Z_3 (0 : Int32) (I2, f3, f4))) ∧ (¬ (4 : Int32) < s0 → (v_Reader_addRow_0 I0 I2 n3 f3 n4 f4 (22 : Int32) s0 (fun r u => (v_Reader_readRow_99 I0 n1 f1 u.1 n3 u.2.1 n4 u.2.2 r  Z_3)))))) ∧ (¬ x2 = (100 : Int32) → ((x2 = (104 : Int32) → (((2 : Int32) < s0 → (Z_3 (0 : Int32) (I2, f3, f4))) ∧ (¬ (2 : Int32) < s0 → (v_Reader_addRow_0 I0 I2 n3 f3 n4 f4 (23 : Int32) s0 (fun r u => (v_Reader_readRow_116 I0 n1 f1 u.1 n3 u.2.1 n4 u.2.2 r  Z_3)))))) ∧ (¬ x2 = (104 : Int32) → ((x2 = (109 : Int32) → (((5 : Int32) < s0 → (Z_3 (0 : Int32) (I2, f3, f4))) ∧ (¬ (5 : Int32) < s0 → (v_Reader_addRow_0 I0 I2 n3 f3 n4 f4 (21 : Int32) s0 (fun r u => (v_Reader_readRow_82 I0 n1 f1 u.1 n3 u.2.1 n4 u.2.2 r  Z_3)))))) ∧ (¬ x2 = (109 : Int32) → ((x2 = (121 : Int32) → ((s0 = (2 : Int32) → (v_Reader_readRow_58 I0 n1 f1 I2 n3 f3 n4 f4 s0  Z_3)) ∧ (¬ s0 = (2 : Int32) → ((¬ s0 = (4 : Int32) → (Z_3 (0 : Int32) (I2, f3, f4))) ∧ (s0 = (4 : Int32) → (v_Reader_readRow_58 I0 n1 f1 I2 n3 f3 n4 f4 s0  Z_3)))))) ∧ (¬ x2 = (121 : Int32) → (((2 : Int32) < s0 → (Z_3 (0 : Int32) (I2, f3, f4))) ∧ (¬ (2 : Int32) < s0 → (v_Reader_addRow_0 I0 I2 n3 f3 n4 f4 (25 : Int32) s0 (fun r u => (v_Reader_readRow_133 I0 n1 f1 u.1 n3 u.2.1 n4 u.2.2 r  Z_3))))))))))))))) : v_Reader_readRow_5 I0 n1 f1 I2 n3 f3 n4 f4 x2 s0 Z_1 → v_Reader_readRow_5 I0 n1 f1 I2 n3 f3 n4 f4 x2 s0 Z_2 → v_Reader_readRow_5 I0 n1 f1 I2 n3 f3 n4 f4 x2 s0 Z_3 := h
theorem y_Reader_readRow_0 {I0 : Nat → Int32} {n1 : Nat} {f1 : Nat → Int32} {I2 : Nat → Int32} {n3 : Nat} {f3 : Nat → Int32} {n4 : Nat} {f4 : Nat → Int32} {x1 : Int32} {x2 : Int32} {Z_1 Z_2 Z_3 : Int32 → (Nat → Int32) × (Nat → Int32) × (Nat → Int32) → Prop} (h : ((v_Reader_rowLength_0 I0 n1 f1 x1 (fun r u => (v_Reader_readRow_5 I0 n1 f1 I2 n3 f3 n4 f4 x2 r  Z_1)))) → ((v_Reader_rowLength_0 I0 n1 f1 x1 (fun r u => (v_Reader_readRow_5 I0 n1 f1 I2 n3 f3 n4 f4 x2 r  Z_2)))) → ((v_Reader_rowLength_0 I0 n1 f1 x1 (fun r u => (v_Reader_readRow_5 I0 n1 f1 I2 n3 f3 n4 f4 x2 r  Z_3))))) : v_Reader_readRow_0 I0 n1 f1 I2 n3 f3 n4 f4 x1 x2 Z_1 → v_Reader_readRow_0 I0 n1 f1 I2 n3 f3 n4 f4 x1 x2 Z_2 → v_Reader_readRow_0 I0 n1 f1 I2 n3 f3 n4 f4 x1 x2 Z_3 := h
theorem y_Reader_readSign_46 {I0 : Nat → Int32} {n1 : Nat} {f1 : Nat → Int32} {I2 : Nat → Int32} {n3 : Nat} {f3 : Nat → Int32} {n4 : Nat} {f4 : Nat → Int32} {s0 : Int32} {Z_1 Z_2 Z_3 : Int32 → (Nat → Int32) × (Nat → Int32) × (Nat → Int32) → Prop} (h : ((Z_1 s0 (I2, f3, f4))) → ((Z_2 s0 (I2, f3, f4))) → ((Z_3 s0 (I2, f3, f4)))) : v_Reader_readSign_46 I0 n1 f1 I2 n3 f3 n4 f4 s0 Z_1 → v_Reader_readSign_46 I0 n1 f1 I2 n3 f3 n4 f4 s0 Z_2 → v_Reader_readSign_46 I0 n1 f1 I2 n3 f3 n4 f4 s0 Z_3 := h
theorem y_Reader_readSign_35 {I0 : Nat → Int32} {n1 : Nat} {f1 : Nat → Int32} {I2 : Nat → Int32} {n3 : Nat} {f3 : Nat → Int32} {n4 : Nat} {f4 : Nat → Int32} {x2 : Int32} {s0 : Int32} {Z_1 Z_2 Z_3 : Int32 → (Nat → Int32) × (Nat → Int32) × (Nat → Int32) → Prop} (h : (((s0 = 0 → (Z_1 (0 : Int32) (I2, f3, f4))) ∧ (¬ s0 = 0 → (v_Reader_addOne_0 I0 I2 n3 f3 n4 f4 (1 : Int32) x2 (fun r u => (v_Reader_readSign_46 I0 n1 f1 u.1 n3 u.2.1 n4 u.2.2 r  Z_1)))))) → (((s0 = 0 → (Z_2 (0 : Int32) (I2, f3, f4))) ∧ (¬ s0 = 0 → (v_Reader_addOne_0 I0 I2 n3 f3 n4 f4 (1 : Int32) x2 (fun r u => (v_Reader_readSign_46 I0 n1 f1 u.1 n3 u.2.1 n4 u.2.2 r  Z_2)))))) → (((s0 = 0 → (Z_3 (0 : Int32) (I2, f3, f4))) ∧ (¬ s0 = 0 → (v_Reader_addOne_0 I0 I2 n3 f3 n4 f4 (1 : Int32) x2 (fun r u => (v_Reader_readSign_46 I0 n1 f1 u.1 n3 u.2.1 n4 u.2.2 r  Z_3))))))) : v_Reader_readSign_35 I0 n1 f1 I2 n3 f3 n4 f4 x2 s0 Z_1 → v_Reader_readSign_35 I0 n1 f1 I2 n3 f3 n4 f4 x2 s0 Z_2 → v_Reader_readSign_35 I0 n1 f1 I2 n3 f3 n4 f4 x2 s0 Z_3 := h
theorem y_Reader_readSign_30 {I0 : Nat → Int32} {n1 : Nat} {f1 : Nat → Int32} {I2 : Nat → Int32} {n3 : Nat} {f3 : Nat → Int32} {n4 : Nat} {f4 : Nat → Int32} {x2 : Int32} {Z_1 Z_2 Z_3 : Int32 → (Nat → Int32) × (Nat → Int32) × (Nat → Int32) → Prop} (h : ((v_Reader_readSign_35 I0 n1 f1 I2 n3 f3 n4 f4 x2 (1 : Int32)  Z_1)) → ((v_Reader_readSign_35 I0 n1 f1 I2 n3 f3 n4 f4 x2 (1 : Int32)  Z_2)) → ((v_Reader_readSign_35 I0 n1 f1 I2 n3 f3 n4 f4 x2 (1 : Int32)  Z_3))) : v_Reader_readSign_30 I0 n1 f1 I2 n3 f3 n4 f4 x2 Z_1 → v_Reader_readSign_30 I0 n1 f1 I2 n3 f3 n4 f4 x2 Z_2 → v_Reader_readSign_30 I0 n1 f1 I2 n3 f3 n4 f4 x2 Z_3 := h
theorem y_Reader_readSign_5 {I0 : Nat → Int32} {n1 : Nat} {f1 : Nat → Int32} {I2 : Nat → Int32} {n3 : Nat} {f3 : Nat → Int32} {n4 : Nat} {f4 : Nat → Int32} {s0 : Int32} {Z_1 Z_2 Z_3 : Int32 → (Nat → Int32) × (Nat → Int32) × (Nat → Int32) → Prop} (h : (((s0 = (46 : Int32) → (v_Reader_readSign_30 I0 n1 f1 I2 n3 f3 n4 f4 s0  Z_1)) ∧ (¬ s0 = (46 : Int32) → ((s0 = (44 : Int32) → (v_Reader_readSign_30 I0 n1 f1 I2 n3 f3 n4 f4 s0  Z_1)) ∧ (¬ s0 = (44 : Int32) → ((s0 = (47 : Int32) → (v_Reader_readSign_30 I0 n1 f1 I2 n3 f3 n4 f4 s0  Z_1)) ∧ (¬ s0 = (47 : Int32) → ((¬ s0 = (37 : Int32) → (v_Reader_readSign_35 I0 n1 f1 I2 n3 f3 n4 f4 s0 (0 : Int32)  Z_1)) ∧ (s0 = (37 : Int32) → (v_Reader_readSign_30 I0 n1 f1 I2 n3 f3 n4 f4 s0  Z_1)))))))))) → (((s0 = (46 : Int32) → (v_Reader_readSign_30 I0 n1 f1 I2 n3 f3 n4 f4 s0  Z_2)) ∧ (¬ s0 = (46 : Int32) → ((s0 = (44 : Int32) → (v_Reader_readSign_30 I0 n1 f1 I2 n3 f3 n4 f4 s0  Z_2)) ∧ (¬ s0 = (44 : Int32) → ((s0 = (47 : Int32) → (v_Reader_readSign_30 I0 n1 f1 I2 n3 f3 n4 f4 s0  Z_2)) ∧ (¬ s0 = (47 : Int32) → ((¬ s0 = (37 : Int32) → (v_Reader_readSign_35 I0 n1 f1 I2 n3 f3 n4 f4 s0 (0 : Int32)  Z_2)) ∧ (s0 = (37 : Int32) → (v_Reader_readSign_30 I0 n1 f1 I2 n3 f3 n4 f4 s0  Z_2)))))))))) → (((s0 = (46 : Int32) → (v_Reader_readSign_30 I0 n1 f1 I2 n3 f3 n4 f4 s0  Z_3)) ∧ (¬ s0 = (46 : Int32) → ((s0 = (44 : Int32) → (v_Reader_readSign_30 I0 n1 f1 I2 n3 f3 n4 f4 s0  Z_3)) ∧ (¬ s0 = (44 : Int32) → ((s0 = (47 : Int32) → (v_Reader_readSign_30 I0 n1 f1 I2 n3 f3 n4 f4 s0  Z_3)) ∧ (¬ s0 = (47 : Int32) → ((¬ s0 = (37 : Int32) → (v_Reader_readSign_35 I0 n1 f1 I2 n3 f3 n4 f4 s0 (0 : Int32)  Z_3)) ∧ (s0 = (37 : Int32) → (v_Reader_readSign_30 I0 n1 f1 I2 n3 f3 n4 f4 s0  Z_3))))))))))) : v_Reader_readSign_5 I0 n1 f1 I2 n3 f3 n4 f4 s0 Z_1 → v_Reader_readSign_5 I0 n1 f1 I2 n3 f3 n4 f4 s0 Z_2 → v_Reader_readSign_5 I0 n1 f1 I2 n3 f3 n4 f4 s0 Z_3 := h
theorem y_Reader_readSign_0 {I0 : Nat → Int32} {n1 : Nat} {f1 : Nat → Int32} {I2 : Nat → Int32} {n3 : Nat} {f3 : Nat → Int32} {n4 : Nat} {f4 : Nat → Int32} {x1 : Int32} {Z_1 Z_2 Z_3 : Int32 → (Nat → Int32) × (Nat → Int32) × (Nat → Int32) → Prop} (h : ((v_Reader_sign_0 I0 n1 f1 x1 (fun r u => (v_Reader_readSign_5 I0 n1 f1 I2 n3 f3 n4 f4 r  Z_1)))) → ((v_Reader_sign_0 I0 n1 f1 x1 (fun r u => (v_Reader_readSign_5 I0 n1 f1 I2 n3 f3 n4 f4 r  Z_2)))) → ((v_Reader_sign_0 I0 n1 f1 x1 (fun r u => (v_Reader_readSign_5 I0 n1 f1 I2 n3 f3 n4 f4 r  Z_3))))) : v_Reader_readSign_0 I0 n1 f1 I2 n3 f3 n4 f4 x1 Z_1 → v_Reader_readSign_0 I0 n1 f1 I2 n3 f3 n4 f4 x1 Z_2 → v_Reader_readSign_0 I0 n1 f1 I2 n3 f3 n4 f4 x1 Z_3 := h
theorem y_Reader_readDateItem_19 {I0 : Nat → Int32} {n1 : Nat} {f1 : Nat → Int32} {I2 : Nat → Int32} {n3 : Nat} {f3 : Nat → Int32} {n4 : Nat} {f4 : Nat → Int32} {I5 : Nat → Int32} {s0 : Int32} {Z_1 Z_2 Z_3 : Int32 → (Nat → Int32) × (Nat → Int32) × (Nat → Int32) × (Nat → Int32) → Prop} (h : ((Z_1 s0 (I2, f3, f4, I5))) → ((Z_2 s0 (I2, f3, f4, I5))) → ((Z_3 s0 (I2, f3, f4, I5)))) : v_Reader_readDateItem_19 I0 n1 f1 I2 n3 f3 n4 f4 I5 s0 Z_1 → v_Reader_readDateItem_19 I0 n1 f1 I2 n3 f3 n4 f4 I5 s0 Z_2 → v_Reader_readDateItem_19 I0 n1 f1 I2 n3 f3 n4 f4 I5 s0 Z_3 := h
theorem y_Reader_readDateItem_36 {I0 : Nat → Int32} {n1 : Nat} {f1 : Nat → Int32} {I2 : Nat → Int32} {n3 : Nat} {f3 : Nat → Int32} {n4 : Nat} {f4 : Nat → Int32} {I5 : Nat → Int32} {s0 : Int32} {Z_1 Z_2 Z_3 : Int32 → (Nat → Int32) × (Nat → Int32) × (Nat → Int32) × (Nat → Int32) → Prop} (h : ((Z_1 s0 (I2, f3, f4, I5))) → ((Z_2 s0 (I2, f3, f4, I5))) → ((Z_3 s0 (I2, f3, f4, I5)))) : v_Reader_readDateItem_36 I0 n1 f1 I2 n3 f3 n4 f4 I5 s0 Z_1 → v_Reader_readDateItem_36 I0 n1 f1 I2 n3 f3 n4 f4 I5 s0 Z_2 → v_Reader_readDateItem_36 I0 n1 f1 I2 n3 f3 n4 f4 I5 s0 Z_3 := h
theorem y_Reader_readDateItem_33 {I0 : Nat → Int32} {n1 : Nat} {f1 : Nat → Int32} {I2 : Nat → Int32} {n3 : Nat} {f3 : Nat → Int32} {n4 : Nat} {f4 : Nat → Int32} {I5 : Nat → Int32} {s1 : Int32} {s2 : Int32} {Z_1 Z_2 Z_3 : Int32 → (Nat → Int32) × (Nat → Int32) × (Nat → Int32) × (Nat → Int32) → Prop} (h : ((v_Reader_readInAll_0 I0 n1 f1 I2 n3 f3 n4 f4 s1 s2 (fun r u => (v_Reader_readDateItem_36 I0 n1 f1 u.1 n3 u.2.1 n4 u.2.2 I5 r  Z_1)))) → ((v_Reader_readInAll_0 I0 n1 f1 I2 n3 f3 n4 f4 s1 s2 (fun r u => (v_Reader_readDateItem_36 I0 n1 f1 u.1 n3 u.2.1 n4 u.2.2 I5 r  Z_2)))) → ((v_Reader_readInAll_0 I0 n1 f1 I2 n3 f3 n4 f4 s1 s2 (fun r u => (v_Reader_readDateItem_36 I0 n1 f1 u.1 n3 u.2.1 n4 u.2.2 I5 r  Z_3))))) : v_Reader_readDateItem_33 I0 n1 f1 I2 n3 f3 n4 f4 I5 s1 s2 Z_1 → v_Reader_readDateItem_33 I0 n1 f1 I2 n3 f3 n4 f4 I5 s1 s2 Z_2 → v_Reader_readDateItem_33 I0 n1 f1 I2 n3 f3 n4 f4 I5 s1 s2 Z_3 := h
theorem y_Reader_readDateItem_52 {I0 : Nat → Int32} {n1 : Nat} {f1 : Nat → Int32} {I2 : Nat → Int32} {n3 : Nat} {f3 : Nat → Int32} {n4 : Nat} {f4 : Nat → Int32} {I5 : Nat → Int32} {s0 : Int32} {Z_1 Z_2 Z_3 : Int32 → (Nat → Int32) × (Nat → Int32) × (Nat → Int32) × (Nat → Int32) → Prop} (h : ((Z_1 s0 (I2, f3, f4, I5))) → ((Z_2 s0 (I2, f3, f4, I5))) → ((Z_3 s0 (I2, f3, f4, I5)))) : v_Reader_readDateItem_52 I0 n1 f1 I2 n3 f3 n4 f4 I5 s0 Z_1 → v_Reader_readDateItem_52 I0 n1 f1 I2 n3 f3 n4 f4 I5 s0 Z_2 → v_Reader_readDateItem_52 I0 n1 f1 I2 n3 f3 n4 f4 I5 s0 Z_3 := h
theorem y_Reader_readDateItem_49 {I0 : Nat → Int32} {n1 : Nat} {f1 : Nat → Int32} {I2 : Nat → Int32} {n3 : Nat} {f3 : Nat → Int32} {n4 : Nat} {f4 : Nat → Int32} {I5 : Nat → Int32} {s1 : Int32} {Z_1 Z_2 Z_3 : Int32 → (Nat → Int32) × (Nat → Int32) × (Nat → Int32) × (Nat → Int32) → Prop} (h : ((v_Reader_readHalfDay_0 I0 I5 I2 n3 f3 n4 f4 s1 (fun r u => (v_Reader_readDateItem_52 I0 n1 f1 u.2.1 n3 u.2.2.1 n4 u.2.2.2 u.1 r  Z_1)))) → ((v_Reader_readHalfDay_0 I0 I5 I2 n3 f3 n4 f4 s1 (fun r u => (v_Reader_readDateItem_52 I0 n1 f1 u.2.1 n3 u.2.2.1 n4 u.2.2.2 u.1 r  Z_2)))) → ((v_Reader_readHalfDay_0 I0 I5 I2 n3 f3 n4 f4 s1 (fun r u => (v_Reader_readDateItem_52 I0 n1 f1 u.2.1 n3 u.2.2.1 n4 u.2.2.2 u.1 r  Z_3))))) : v_Reader_readDateItem_49 I0 n1 f1 I2 n3 f3 n4 f4 I5 s1 Z_1 → v_Reader_readDateItem_49 I0 n1 f1 I2 n3 f3 n4 f4 I5 s1 Z_2 → v_Reader_readDateItem_49 I0 n1 f1 I2 n3 f3 n4 f4 I5 s1 Z_3 := h
theorem y_Reader_readDateItem_72 {I0 : Nat → Int32} {n1 : Nat} {f1 : Nat → Int32} {I2 : Nat → Int32} {n3 : Nat} {f3 : Nat → Int32} {n4 : Nat} {f4 : Nat → Int32} {I5 : Nat → Int32} {s0 : Int32} {Z_1 Z_2 Z_3 : Int32 → (Nat → Int32) × (Nat → Int32) × (Nat → Int32) × (Nat → Int32) → Prop} (h : ((Z_1 s0 (I2, f3, f4, I5))) → ((Z_2 s0 (I2, f3, f4, I5))) → ((Z_3 s0 (I2, f3, f4, I5)))) : v_Reader_readDateItem_72 I0 n1 f1 I2 n3 f3 n4 f4 I5 s0 Z_1 → v_Reader_readDateItem_72 I0 n1 f1 I2 n3 f3 n4 f4 I5 s0 Z_2 → v_Reader_readDateItem_72 I0 n1 f1 I2 n3 f3 n4 f4 I5 s0 Z_3 := h
theorem y_Reader_readDateItem_64 {I0 : Nat → Int32} {n1 : Nat} {f1 : Nat → Int32} {I2 : Nat → Int32} {n3 : Nat} {f3 : Nat → Int32} {n4 : Nat} {f4 : Nat → Int32} {I5 : Nat → Int32} {s0 : Int32} {Z_1 Z_2 Z_3 : Int32 → (Nat → Int32) × (Nat → Int32) × (Nat → Int32) × (Nat → Int32) → Prop} (h : ((v_Reader_readDateItem_72 I0 n1 f1 I2 n3 f3 n4 f4 I5 s0  Z_1)) → ((v_Reader_readDateItem_72 I0 n1 f1 I2 n3 f3 n4 f4 I5 s0  Z_2)) → ((v_Reader_readDateItem_72 I0 n1 f1 I2 n3 f3 n4 f4 I5 s0  Z_3))) : v_Reader_readDateItem_64 I0 n1 f1 I2 n3 f3 n4 f4 I5 s0 Z_1 → v_Reader_readDateItem_64 I0 n1 f1 I2 n3 f3 n4 f4 I5 s0 Z_2 → v_Reader_readDateItem_64 I0 n1 f1 I2 n3 f3 n4 f4 I5 s0 Z_3 := h
theorem y_Reader_readDateItem_10 {I0 : Nat → Int32} {n1 : Nat} {f1 : Nat → Int32} {I2 : Nat → Int32} {n3 : Nat} {f3 : Nat → Int32} {n4 : Nat} {f4 : Nat → Int32} {I5 : Nat → Int32} {x1 : Int32} {x2 : Int32} {s0 : Int32} {Z_1 Z_2 Z_3 : Int32 → (Nat → Int32) × (Nat → Int32) × (Nat → Int32) × (Nat → Int32) → Prop} (h : (((s0 = 0 → ((¬ x2 = (91 : Int32) → ((¬ x2 = (97 : Int32) → ((¬ x2 = (46 : Int32) → (v_Reader_readSign_0 I0 n1 f1 I2 n3 f3 n4 f4 x1 (fun r u => (v_Reader_readDateItem_72 I0 n1 f1 u.1 n3 u.2.1 n4 u.2.2 I5 r  Z_1)))) ∧ (x2 = (46 : Int32) → (v_Reader_readParts_0 I0 I2 I5 n3 f3 n1 f1 n4 f4 x1 (fun r u => (v_Reader_readDateItem_64 I0 n1 f1 u.1 n3 u.2.2.1 n4 u.2.2.2 u.2.1 r  Z_1)))))) ∧ (x2 = (97 : Int32) → (v_Reader_halfDayLength_0 I0 n1 f1 x1 (fun r u => (v_Reader_readDateItem_49 I0 n1 f1 I2 n3 f3 n4 f4 I5 r  Z_1)))))) ∧ (x2 = (91 : Int32) → (v_Reader_bracketRow_0 I0 n1 f1 x1 (fun r u => (v_Reader_readDateItem_33 I0 n1 f1 I2 n3 f3 n4 f4 I5 x1 r  Z_1)))))) ∧ (¬ s0 = 0 → (v_Reader_readRow_0 I0 n1 f1 I2 n3 f3 n4 f4 x1 x2 (fun r u => (v_Reader_readDateItem_19 I0 n1 f1 u.1 n3 u.2.1 n4 u.2.2 I5 r  Z_1)))))) → (((s0 = 0 → ((¬ x2 = (91 : Int32) → ((¬ x2 = (97 : Int32) → ((¬ x2 = (46 : Int32) → (v_Reader_readSign_0 I0 n1 f1 I2 n3 f3 n4 f4 x1 (fun r u => (v_Reader_readDateItem_72 I0 n1 f1 u.1 n3 u.2.1 n4 u.2.2 I5 r  Z_2)))) ∧ (x2 = (46 : Int32) → (v_Reader_readParts_0 I0 I2 I5 n3 f3 n1 f1 n4 f4 x1 (fun r u => (v_Reader_readDateItem_64 I0 n1 f1 u.1 n3 u.2.2.1 n4 u.2.2.2 u.2.1 r  Z_2)))))) ∧ (x2 = (97 : Int32) → (v_Reader_halfDayLength_0 I0 n1 f1 x1 (fun r u => (v_Reader_readDateItem_49 I0 n1 f1 I2 n3 f3 n4 f4 I5 r  Z_2)))))) ∧ (x2 = (91 : Int32) → (v_Reader_bracketRow_0 I0 n1 f1 x1 (fun r u => (v_Reader_readDateItem_33 I0 n1 f1 I2 n3 f3 n4 f4 I5 x1 r  Z_2)))))) ∧ (¬ s0 = 0 → (v_Reader_readRow_0 I0 n1 f1 I2 n3 f3 n4 f4 x1 x2 (fun r u => (v_Reader_readDateItem_19 I0 n1 f1 u.1 n3 u.2.1 n4 u.2.2 I5 r  Z_2)))))) → (((s0 = 0 → ((¬ x2 = (91 : Int32) → ((¬ x2 = (97 : Int32) → ((¬ x2 = (46 : Int32) → (v_Reader_readSign_0 I0 n1 f1 I2 n3 f3 n4 f4 x1 (fun r u => (v_Reader_readDateItem_72 I0 n1 f1 u.1 n3 u.2.1 n4 u.2.2 I5 r  Z_3)))) ∧ (x2 = (46 : Int32) → (v_Reader_readParts_0 I0 I2 I5 n3 f3 n1 f1 n4 f4 x1 (fun r u => (v_Reader_readDateItem_64 I0 n1 f1 u.1 n3 u.2.2.1 n4 u.2.2.2 u.2.1 r  Z_3)))))) ∧ (x2 = (97 : Int32) → (v_Reader_halfDayLength_0 I0 n1 f1 x1 (fun r u => (v_Reader_readDateItem_49 I0 n1 f1 I2 n3 f3 n4 f4 I5 r  Z_3)))))) ∧ (x2 = (91 : Int32) → (v_Reader_bracketRow_0 I0 n1 f1 x1 (fun r u => (v_Reader_readDateItem_33 I0 n1 f1 I2 n3 f3 n4 f4 I5 x1 r  Z_3)))))) ∧ (¬ s0 = 0 → (v_Reader_readRow_0 I0 n1 f1 I2 n3 f3 n4 f4 x1 x2 (fun r u => (v_Reader_readDateItem_19 I0 n1 f1 u.1 n3 u.2.1 n4 u.2.2 I5 r  Z_3))))))) : v_Reader_readDateItem_10 I0 n1 f1 I2 n3 f3 n4 f4 I5 x1 x2 s0 Z_1 → v_Reader_readDateItem_10 I0 n1 f1 I2 n3 f3 n4 f4 I5 x1 x2 s0 Z_2 → v_Reader_readDateItem_10 I0 n1 f1 I2 n3 f3 n4 f4 I5 x1 x2 s0 Z_3 := h
theorem y_Reader_readDateItem_5 {I0 : Nat → Int32} {n1 : Nat} {f1 : Nat → Int32} {I2 : Nat → Int32} {n3 : Nat} {f3 : Nat → Int32} {n4 : Nat} {f4 : Nat → Int32} {I5 : Nat → Int32} {x1 : Int32} {s0 : Int32} {Z_1 Z_2 Z_3 : Int32 → (Nat → Int32) × (Nat → Int32) × (Nat → Int32) × (Nat → Int32) → Prop} (h : ((v_Reader_isDateLetter_0 s0 (fun r u => (v_Reader_readDateItem_10 I0 n1 f1 I2 n3 f3 n4 f4 I5 x1 s0 r  Z_1)))) → ((v_Reader_isDateLetter_0 s0 (fun r u => (v_Reader_readDateItem_10 I0 n1 f1 I2 n3 f3 n4 f4 I5 x1 s0 r  Z_2)))) → ((v_Reader_isDateLetter_0 s0 (fun r u => (v_Reader_readDateItem_10 I0 n1 f1 I2 n3 f3 n4 f4 I5 x1 s0 r  Z_3))))) : v_Reader_readDateItem_5 I0 n1 f1 I2 n3 f3 n4 f4 I5 x1 s0 Z_1 → v_Reader_readDateItem_5 I0 n1 f1 I2 n3 f3 n4 f4 I5 x1 s0 Z_2 → v_Reader_readDateItem_5 I0 n1 f1 I2 n3 f3 n4 f4 I5 x1 s0 Z_3 := h
theorem y_Reader_readDateItem_0 {I0 : Nat → Int32} {n1 : Nat} {f1 : Nat → Int32} {I2 : Nat → Int32} {n3 : Nat} {f3 : Nat → Int32} {n4 : Nat} {f4 : Nat → Int32} {I5 : Nat → Int32} {x1 : Int32} {Z_1 Z_2 Z_3 : Int32 → (Nat → Int32) × (Nat → Int32) × (Nat → Int32) × (Nat → Int32) → Prop} (h : ((v_Reader_small_0 I0 n1 f1 x1 (fun r u => (v_Reader_readDateItem_5 I0 n1 f1 I2 n3 f3 n4 f4 I5 x1 r  Z_1)))) → ((v_Reader_small_0 I0 n1 f1 x1 (fun r u => (v_Reader_readDateItem_5 I0 n1 f1 I2 n3 f3 n4 f4 I5 x1 r  Z_2)))) → ((v_Reader_small_0 I0 n1 f1 x1 (fun r u => (v_Reader_readDateItem_5 I0 n1 f1 I2 n3 f3 n4 f4 I5 x1 r  Z_3))))) : v_Reader_readDateItem_0 I0 n1 f1 I2 n3 f3 n4 f4 I5 x1 Z_1 → v_Reader_readDateItem_0 I0 n1 f1 I2 n3 f3 n4 f4 I5 x1 Z_2 → v_Reader_readDateItem_0 I0 n1 f1 I2 n3 f3 n4 f4 I5 x1 Z_3 := h
theorem y_Reader_readComma_38 {I0 : Nat → Int32} {I1 : Nat → Int32} {I2 : Nat → Int32} {n3 : Nat} {f3 : Nat → Int32} {n4 : Nat} {f4 : Nat → Int32} {n5 : Nat} {f5 : Nat → Int32} {s0 : Int32} {Z_1 Z_2 Z_3 : Int32 → (Nat → Int32) × (Nat → Int32) × (Nat → Int32) × (Nat → Int32) → Prop} (h : ((Z_1 s0 (I1, I2, f3, f5))) → ((Z_2 s0 (I1, I2, f3, f5))) → ((Z_3 s0 (I1, I2, f3, f5)))) : v_Reader_readComma_38 I0 I1 I2 n3 f3 n4 f4 n5 f5 s0 Z_1 → v_Reader_readComma_38 I0 I1 I2 n3 f3 n4 f4 n5 f5 s0 Z_2 → v_Reader_readComma_38 I0 I1 I2 n3 f3 n4 f4 n5 f5 s0 Z_3 := h
theorem y_Reader_readComma_71 {I0 : Nat → Int32} {I1 : Nat → Int32} {I2 : Nat → Int32} {n3 : Nat} {f3 : Nat → Int32} {n4 : Nat} {f4 : Nat → Int32} {n5 : Nat} {f5 : Nat → Int32} {s0 : Int32} {Z_1 Z_2 Z_3 : Int32 → (Nat → Int32) × (Nat → Int32) × (Nat → Int32) × (Nat → Int32) → Prop} (h : ((Z_1 s0 (I1, I2, f3, f5))) → ((Z_2 s0 (I1, I2, f3, f5))) → ((Z_3 s0 (I1, I2, f3, f5)))) : v_Reader_readComma_71 I0 I1 I2 n3 f3 n4 f4 n5 f5 s0 Z_1 → v_Reader_readComma_71 I0 I1 I2 n3 f3 n4 f4 n5 f5 s0 Z_2 → v_Reader_readComma_71 I0 I1 I2 n3 f3 n4 f4 n5 f5 s0 Z_3 := h
theorem y_Reader_readComma_50 {I0 : Nat → Int32} {I1 : Nat → Int32} {I2 : Nat → Int32} {n3 : Nat} {f3 : Nat → Int32} {n4 : Nat} {f4 : Nat → Int32} {n5 : Nat} {f5 : Nat → Int32} {Z_1 Z_2 Z_3 : Int32 → (Nat → Int32) × (Nat → Int32) × (Nat → Int32) × (Nat → Int32) → Prop} (h : ((v_Reader_addOne_0 I0 I1 n3 f3 n5 f5 (6 : Int32) (44 : Int32) (fun r u => (v_Reader_readComma_71 I0 u.1 (zu I2 7 ((I2 7) + (1 : Int32))) n3 u.2.1 n4 f4 n5 u.2.2 r  Z_1)))) → ((v_Reader_addOne_0 I0 I1 n3 f3 n5 f5 (6 : Int32) (44 : Int32) (fun r u => (v_Reader_readComma_71 I0 u.1 (zu I2 7 ((I2 7) + (1 : Int32))) n3 u.2.1 n4 f4 n5 u.2.2 r  Z_2)))) → ((v_Reader_addOne_0 I0 I1 n3 f3 n5 f5 (6 : Int32) (44 : Int32) (fun r u => (v_Reader_readComma_71 I0 u.1 (zu I2 7 ((I2 7) + (1 : Int32))) n3 u.2.1 n4 f4 n5 u.2.2 r  Z_3))))) : v_Reader_readComma_50 I0 I1 I2 n3 f3 n4 f4 n5 f5 Z_1 → v_Reader_readComma_50 I0 I1 I2 n3 f3 n4 f4 n5 f5 Z_2 → v_Reader_readComma_50 I0 I1 I2 n3 f3 n4 f4 n5 f5 Z_3 := h
theorem y_Reader_readComma_39 {I0 : Nat → Int32} {I1 : Nat → Int32} {I2 : Nat → Int32} {n3 : Nat} {f3 : Nat → Int32} {n4 : Nat} {f4 : Nat → Int32} {n5 : Nat} {f5 : Nat → Int32} {x2 : Int32} {Z_1 Z_2 Z_3 : Int32 → (Nat → Int32) × (Nat → Int32) × (Nat → Int32) × (Nat → Int32) → Prop} (h : (((x2 = (2 : Int32) → (v_Reader_readComma_50 I0 I1 I2 n3 f3 n4 f4 n5 f5  Z_1)) ∧ (¬ x2 = (2 : Int32) → ((¬ x2 = (6 : Int32) → (Z_1 (0 : Int32) (I1, I2, f3, f5))) ∧ (x2 = (6 : Int32) → (v_Reader_readComma_50 I0 I1 I2 n3 f3 n4 f4 n5 f5  Z_1)))))) → (((x2 = (2 : Int32) → (v_Reader_readComma_50 I0 I1 I2 n3 f3 n4 f4 n5 f5  Z_2)) ∧ (¬ x2 = (2 : Int32) → ((¬ x2 = (6 : Int32) → (Z_2 (0 : Int32) (I1, I2, f3, f5))) ∧ (x2 = (6 : Int32) → (v_Reader_readComma_50 I0 I1 I2 n3 f3 n4 f4 n5 f5  Z_2)))))) → (((x2 = (2 : Int32) → (v_Reader_readComma_50 I0 I1 I2 n3 f3 n4 f4 n5 f5  Z_3)) ∧ (¬ x2 = (2 : Int32) → ((¬ x2 = (6 : Int32) → (Z_3 (0 : Int32) (I1, I2, f3, f5))) ∧ (x2 = (6 : Int32) → (v_Reader_readComma_50 I0 I1 I2 n3 f3 n4 f4 n5 f5  Z_3))))))) : v_Reader_readComma_39 I0 I1 I2 n3 f3 n4 f4 n5 f5 x2 Z_1 → v_Reader_readComma_39 I0 I1 I2 n3 f3 n4 f4 n5 f5 x2 Z_2 → v_Reader_readComma_39 I0 I1 I2 n3 f3 n4 f4 n5 f5 x2 Z_3 := h
theorem y_Reader_readComma_20 {I0 : Nat → Int32} {I1 : Nat → Int32} {I2 : Nat → Int32} {n3 : Nat} {f3 : Nat → Int32} {n4 : Nat} {f4 : Nat → Int32} {n5 : Nat} {f5 : Nat → Int32} {x2 : Int32} {s0 : Int32} {Z_1 Z_2 Z_3 : Int32 → (Nat → Int32) × (Nat → Int32) × (Nat → Int32) × (Nat → Int32) → Prop} (h : (((s0 = 0 → (v_Reader_readComma_39 I0 I1 I2 n3 f3 n4 f4 n5 f5 x2  Z_1)) ∧ (¬ s0 = 0 → (v_Reader_addOne_0 I0 I1 n3 f3 n5 f5 (5 : Int32) (44 : Int32) (fun r u => (v_Reader_readComma_38 I0 u.1 (zu I2 6 (1 : Int32)) n3 u.2.1 n4 f4 n5 u.2.2 r  Z_1)))))) → (((s0 = 0 → (v_Reader_readComma_39 I0 I1 I2 n3 f3 n4 f4 n5 f5 x2  Z_2)) ∧ (¬ s0 = 0 → (v_Reader_addOne_0 I0 I1 n3 f3 n5 f5 (5 : Int32) (44 : Int32) (fun r u => (v_Reader_readComma_38 I0 u.1 (zu I2 6 (1 : Int32)) n3 u.2.1 n4 f4 n5 u.2.2 r  Z_2)))))) → (((s0 = 0 → (v_Reader_readComma_39 I0 I1 I2 n3 f3 n4 f4 n5 f5 x2  Z_3)) ∧ (¬ s0 = 0 → (v_Reader_addOne_0 I0 I1 n3 f3 n5 f5 (5 : Int32) (44 : Int32) (fun r u => (v_Reader_readComma_38 I0 u.1 (zu I2 6 (1 : Int32)) n3 u.2.1 n4 f4 n5 u.2.2 r  Z_3))))))) : v_Reader_readComma_20 I0 I1 I2 n3 f3 n4 f4 n5 f5 x2 s0 Z_1 → v_Reader_readComma_20 I0 I1 I2 n3 f3 n4 f4 n5 f5 x2 s0 Z_2 → v_Reader_readComma_20 I0 I1 I2 n3 f3 n4 f4 n5 f5 x2 s0 Z_3 := h
theorem y_Reader_readComma_17 {I0 : Nat → Int32} {I1 : Nat → Int32} {I2 : Nat → Int32} {n3 : Nat} {f3 : Nat → Int32} {n4 : Nat} {f4 : Nat → Int32} {n5 : Nat} {f5 : Nat → Int32} {x2 : Int32} {s0 : Int32} {Z_1 Z_2 Z_3 : Int32 → (Nat → Int32) × (Nat → Int32) × (Nat → Int32) × (Nat → Int32) → Prop} (h : ((v_Reader_isPlace_0 s0 (fun r u => (v_Reader_readComma_20 I0 I1 I2 n3 f3 n4 f4 n5 f5 x2 r  Z_1)))) → ((v_Reader_isPlace_0 s0 (fun r u => (v_Reader_readComma_20 I0 I1 I2 n3 f3 n4 f4 n5 f5 x2 r  Z_2)))) → ((v_Reader_isPlace_0 s0 (fun r u => (v_Reader_readComma_20 I0 I1 I2 n3 f3 n4 f4 n5 f5 x2 r  Z_3))))) : v_Reader_readComma_17 I0 I1 I2 n3 f3 n4 f4 n5 f5 x2 s0 Z_1 → v_Reader_readComma_17 I0 I1 I2 n3 f3 n4 f4 n5 f5 x2 s0 Z_2 → v_Reader_readComma_17 I0 I1 I2 n3 f3 n4 f4 n5 f5 x2 s0 Z_3 := h
theorem y_Reader_readComma_4 {I0 : Nat → Int32} {I1 : Nat → Int32} {I2 : Nat → Int32} {n3 : Nat} {f3 : Nat → Int32} {n4 : Nat} {f4 : Nat → Int32} {n5 : Nat} {f5 : Nat → Int32} {x1 : Int32} {s0 : Int32} {Z_1 Z_2 Z_3 : Int32 → (Nat → Int32) × (Nat → Int32) × (Nat → Int32) × (Nat → Int32) → Prop} (h : (((¬ s0 = (2 : Int32) → (v_Reader_readComma_39 I0 I1 I2 n3 f3 n4 f4 n5 f5 s0  Z_1)) ∧ (s0 = (2 : Int32) → (v_Reader_sign_0 I0 n4 f4 (x1 + (1 : Int32)) (fun r u => (v_Reader_readComma_17 I0 I1 I2 n3 f3 n4 f4 n5 f5 s0 r  Z_1)))))) → (((¬ s0 = (2 : Int32) → (v_Reader_readComma_39 I0 I1 I2 n3 f3 n4 f4 n5 f5 s0  Z_2)) ∧ (s0 = (2 : Int32) → (v_Reader_sign_0 I0 n4 f4 (x1 + (1 : Int32)) (fun r u => (v_Reader_readComma_17 I0 I1 I2 n3 f3 n4 f4 n5 f5 s0 r  Z_2)))))) → (((¬ s0 = (2 : Int32) → (v_Reader_readComma_39 I0 I1 I2 n3 f3 n4 f4 n5 f5 s0  Z_3)) ∧ (s0 = (2 : Int32) → (v_Reader_sign_0 I0 n4 f4 (x1 + (1 : Int32)) (fun r u => (v_Reader_readComma_17 I0 I1 I2 n3 f3 n4 f4 n5 f5 s0 r  Z_3))))))) : v_Reader_readComma_4 I0 I1 I2 n3 f3 n4 f4 n5 f5 x1 s0 Z_1 → v_Reader_readComma_4 I0 I1 I2 n3 f3 n4 f4 n5 f5 x1 s0 Z_2 → v_Reader_readComma_4 I0 I1 I2 n3 f3 n4 f4 n5 f5 x1 s0 Z_3 := h
theorem y_Reader_readComma_0 {I0 : Nat → Int32} {I1 : Nat → Int32} {I2 : Nat → Int32} {n3 : Nat} {f3 : Nat → Int32} {n4 : Nat} {f4 : Nat → Int32} {n5 : Nat} {f5 : Nat → Int32} {x1 : Int32} {Z_1 Z_2 Z_3 : Int32 → (Nat → Int32) × (Nat → Int32) × (Nat → Int32) × (Nat → Int32) → Prop} (h : ((v_Reader_kindBefore_0 I0 I1 I2 n3 f3 (fun r u => (v_Reader_readComma_4 I0 I1 I2 n3 f3 n4 f4 n5 f5 x1 r  Z_1)))) → ((v_Reader_kindBefore_0 I0 I1 I2 n3 f3 (fun r u => (v_Reader_readComma_4 I0 I1 I2 n3 f3 n4 f4 n5 f5 x1 r  Z_2)))) → ((v_Reader_kindBefore_0 I0 I1 I2 n3 f3 (fun r u => (v_Reader_readComma_4 I0 I1 I2 n3 f3 n4 f4 n5 f5 x1 r  Z_3))))) : v_Reader_readComma_0 I0 I1 I2 n3 f3 n4 f4 n5 f5 x1 Z_1 → v_Reader_readComma_0 I0 I1 I2 n3 f3 n4 f4 n5 f5 x1 Z_2 → v_Reader_readComma_0 I0 I1 I2 n3 f3 n4 f4 n5 f5 x1 Z_3 := h
theorem y_Reader_isDigit_0 {x0 : Int32} {Z_1 Z_2 Z_3 : Int32 → Unit → Prop} (h : (((x0 < (48 : Int32) → (Z_1 (0 : Int32) ())) ∧ (¬ x0 < (48 : Int32) → (((57 : Int32) < x0 → (Z_1 (0 : Int32) ())) ∧ (¬ (57 : Int32) < x0 → (Z_1 (1 : Int32) ())))))) → (((x0 < (48 : Int32) → (Z_2 (0 : Int32) ())) ∧ (¬ x0 < (48 : Int32) → (((57 : Int32) < x0 → (Z_2 (0 : Int32) ())) ∧ (¬ (57 : Int32) < x0 → (Z_2 (1 : Int32) ())))))) → (((x0 < (48 : Int32) → (Z_3 (0 : Int32) ())) ∧ (¬ x0 < (48 : Int32) → (((57 : Int32) < x0 → (Z_3 (0 : Int32) ())) ∧ (¬ (57 : Int32) < x0 → (Z_3 (1 : Int32) ()))))))) : v_Reader_isDigit_0 x0 Z_1 → v_Reader_isDigit_0 x0 Z_2 → v_Reader_isDigit_0 x0 Z_3 := h
theorem y_Reader_digitsFrom_25 {I0 : Nat → Int32} {n1 : Nat} {f1 : Nat → Int32} {x1 : Int32} {x2 : Int32} {s0 : Int32} {k2_1 k2_2 k2_3 : Int32 → Prop} {Z_1 Z_2 Z_3 : Int32 → Unit → Prop} (h : (((s0 = (48 : Int32) → (Z_1 x2 ())) ∧ (¬ s0 = (48 : Int32) → (k2_1 (x2 + (1 : Int32)))))) → (((s0 = (48 : Int32) → (Z_2 x2 ())) ∧ (¬ s0 = (48 : Int32) → (k2_2 (x2 + (1 : Int32)))))) → (((s0 = (48 : Int32) → (Z_3 x2 ())) ∧ (¬ s0 = (48 : Int32) → (k2_3 (x2 + (1 : Int32))))))) : v_Reader_digitsFrom_25 I0 n1 f1 x1 x2 s0 k2_1 Z_1 → v_Reader_digitsFrom_25 I0 n1 f1 x1 x2 s0 k2_2 Z_2 → v_Reader_digitsFrom_25 I0 n1 f1 x1 x2 s0 k2_3 Z_3 := h
theorem y_Reader_digitsFrom_17 {I0 : Nat → Int32} {n1 : Nat} {f1 : Nat → Int32} {x1 : Int32} {x2 : Int32} {s0 : Int32} {k2_1 k2_2 k2_3 : Int32 → Prop} {Z_1 Z_2 Z_3 : Int32 → Unit → Prop} (h : (((s0 = 0 → (Z_1 x2 ())) ∧ (¬ s0 = 0 → (v_Reader_sign_0 I0 n1 f1 x1 (fun r u => (v_Reader_digitsFrom_25 I0 n1 f1 x1 x2 r k2_1 Z_1)))))) → (((s0 = 0 → (Z_2 x2 ())) ∧ (¬ s0 = 0 → (v_Reader_sign_0 I0 n1 f1 x1 (fun r u => (v_Reader_digitsFrom_25 I0 n1 f1 x1 x2 r k2_2 Z_2)))))) → (((s0 = 0 → (Z_3 x2 ())) ∧ (¬ s0 = 0 → (v_Reader_sign_0 I0 n1 f1 x1 (fun r u => (v_Reader_digitsFrom_25 I0 n1 f1 x1 x2 r k2_3 Z_3))))))) : v_Reader_digitsFrom_17 I0 n1 f1 x1 x2 s0 k2_1 Z_1 → v_Reader_digitsFrom_17 I0 n1 f1 x1 x2 s0 k2_2 Z_2 → v_Reader_digitsFrom_17 I0 n1 f1 x1 x2 s0 k2_3 Z_3 := h
theorem y_Reader_digitsFrom_14 {I0 : Nat → Int32} {n1 : Nat} {f1 : Nat → Int32} {x1 : Int32} {x2 : Int32} {s0 : Int32} {k2_1 k2_2 k2_3 : Int32 → Prop} {Z_1 Z_2 Z_3 : Int32 → Unit → Prop} (h : ((v_Reader_isDigit_0 s0 (fun r u => (v_Reader_digitsFrom_17 I0 n1 f1 x1 x2 r k2_1 Z_1)))) → ((v_Reader_isDigit_0 s0 (fun r u => (v_Reader_digitsFrom_17 I0 n1 f1 x1 x2 r k2_2 Z_2)))) → ((v_Reader_isDigit_0 s0 (fun r u => (v_Reader_digitsFrom_17 I0 n1 f1 x1 x2 r k2_3 Z_3))))) : v_Reader_digitsFrom_14 I0 n1 f1 x1 x2 s0 k2_1 Z_1 → v_Reader_digitsFrom_14 I0 n1 f1 x1 x2 s0 k2_2 Z_2 → v_Reader_digitsFrom_14 I0 n1 f1 x1 x2 s0 k2_3 Z_3 := h
theorem y_Reader_digitsFrom_2 {I0 : Nat → Int32} {n1 : Nat} {f1 : Nat → Int32} {x1 : Int32} {Z_1 Z_2 Z_3 : Int32 → Unit → Prop} {N M : Nat} {x2 : Int32} (h : ((((3 : Int32) ≤ x2 → (Z_1 x2 ())) ∧ (¬ (3 : Int32) ≤ x2 → (v_Reader_sign_0 I0 n1 f1 (x1 + x2) (fun r u => (v_Reader_digitsFrom_14 I0 n1 f1 x1 x2 r (v_Reader_digitsFrom_2 I0 n1 f1 x1  Z_1 N) Z_1)))))) → ((((3 : Int32) ≤ x2 → (Z_2 x2 ())) ∧ (¬ (3 : Int32) ≤ x2 → (v_Reader_sign_0 I0 n1 f1 (x1 + x2) (fun r u => (v_Reader_digitsFrom_14 I0 n1 f1 x1 x2 r (v_Reader_digitsFrom_2 I0 n1 f1 x1  Z_2 M) Z_2)))))) → ((((3 : Int32) ≤ x2 → (Z_3 x2 ())) ∧ (¬ (3 : Int32) ≤ x2 → (v_Reader_sign_0 I0 n1 f1 (x1 + x2) (fun r u => (v_Reader_digitsFrom_14 I0 n1 f1 x1 x2 r (v_Reader_digitsFrom_2 I0 n1 f1 x1  Z_3 N) Z_3))))))) : v_Reader_digitsFrom_2 I0 n1 f1 x1 Z_1 (N + 1) x2 → v_Reader_digitsFrom_2 I0 n1 f1 x1 Z_2 (M + 1) x2 → v_Reader_digitsFrom_2 I0 n1 f1 x1 Z_3 (N + 1) x2 := h
theorem y_Reader_digitsFrom_0 {I0 : Nat → Int32} {n1 : Nat} {f1 : Nat → Int32} {x1 : Int32} {Z_1 Z_2 Z_3 : Int32 → Unit → Prop} (h : ((∃ Nx, v_Reader_digitsFrom_2 I0 n1 f1 x1  Z_1 Nx (0 : Int32))) → ((∃ Nx, v_Reader_digitsFrom_2 I0 n1 f1 x1  Z_2 Nx (0 : Int32))) → ((∃ Nx, v_Reader_digitsFrom_2 I0 n1 f1 x1  Z_3 Nx (0 : Int32)))) : v_Reader_digitsFrom_0 I0 n1 f1 x1 Z_1 → v_Reader_digitsFrom_0 I0 n1 f1 x1 Z_2 → v_Reader_digitsFrom_0 I0 n1 f1 x1 Z_3 := h
theorem y_Reader_makeNumerator_43 {I0 : Nat → Int32} {I1 : Nat → Int32} {I2 : Nat → Int32} {n3 : Nat} {f3 : Nat → Int32} {x1 : Int32} {k10_1 k10_2 k10_3 : (Nat → Int32) → (Nat → Int32) → Int32 → Prop} {Z_1 Z_2 Z_3 : (Nat → Int32) × (Nat → Int32) → Prop} (h : ((k10_1 (zu (zu I2 3 ((I2 3) - (1 : Int32))) 10 ((I2 10) + (1 : Int32))) f3 (x1 + (-1 : Int32)))) → ((k10_2 (zu (zu I2 3 ((I2 3) - (1 : Int32))) 10 ((I2 10) + (1 : Int32))) f3 (x1 + (-1 : Int32)))) → ((k10_3 (zu (zu I2 3 ((I2 3) - (1 : Int32))) 10 ((I2 10) + (1 : Int32))) f3 (x1 + (-1 : Int32))))) : v_Reader_makeNumerator_43 I0 I1 I2 n3 f3 x1 k10_1 Z_1 → v_Reader_makeNumerator_43 I0 I1 I2 n3 f3 x1 k10_2 Z_2 → v_Reader_makeNumerator_43 I0 I1 I2 n3 f3 x1 k10_3 Z_3 := h
theorem y_Reader_makeNumerator_29 {I0 : Nat → Int32} {I1 : Nat → Int32} {I2 : Nat → Int32} {n3 : Nat} {f3 : Nat → Int32} {x1 : Int32} {s0 : Int32} {k10_1 k10_2 k10_3 : (Nat → Int32) → (Nat → Int32) → Int32 → Prop} {Z_1 Z_2 Z_3 : (Nat → Int32) × (Nat → Int32) → Prop} (h : (((¬ s0 = (2 : Int32) → (Z_1 (I2, f3))) ∧ (s0 = (2 : Int32) → (v_Code_change_0 I1 n3 f3 x1 (9 : Int32) (fun u => (v_Reader_makeNumerator_43 I0 I1 I2 n3 u x1 k10_1 Z_1)))))) → (((¬ s0 = (2 : Int32) → (Z_2 (I2, f3))) ∧ (s0 = (2 : Int32) → (v_Code_change_0 I1 n3 f3 x1 (9 : Int32) (fun u => (v_Reader_makeNumerator_43 I0 I1 I2 n3 u x1 k10_2 Z_2)))))) → (((¬ s0 = (2 : Int32) → (Z_3 (I2, f3))) ∧ (s0 = (2 : Int32) → (v_Code_change_0 I1 n3 f3 x1 (9 : Int32) (fun u => (v_Reader_makeNumerator_43 I0 I1 I2 n3 u x1 k10_3 Z_3))))))) : v_Reader_makeNumerator_29 I0 I1 I2 n3 f3 x1 s0 k10_1 Z_1 → v_Reader_makeNumerator_29 I0 I1 I2 n3 f3 x1 s0 k10_2 Z_2 → v_Reader_makeNumerator_29 I0 I1 I2 n3 f3 x1 s0 k10_3 Z_3 := h
theorem y_Reader_makeNumerator_10 {I0 : Nat → Int32} {I1 : Nat → Int32} {n3 : Nat} {Z_1 Z_2 Z_3 : (Nat → Int32) × (Nat → Int32) → Prop} {N M : Nat} {I2 : (Nat → Int32)} {f3 : (Nat → Int32)} {x1 : Int32} (h : (((x1 < (I2 1) → (Z_1 (I2, f3))) ∧ (¬ x1 < (I2 1) → (v_Code_kind_0 I1 n3 f3 x1 (fun r u => (v_Reader_makeNumerator_29 I0 I1 I2 n3 f3 x1 r (v_Reader_makeNumerator_10 I0 I1 n3  Z_1 N) Z_1)))))) → (((x1 < (I2 1) → (Z_2 (I2, f3))) ∧ (¬ x1 < (I2 1) → (v_Code_kind_0 I1 n3 f3 x1 (fun r u => (v_Reader_makeNumerator_29 I0 I1 I2 n3 f3 x1 r (v_Reader_makeNumerator_10 I0 I1 n3  Z_2 M) Z_2)))))) → (((x1 < (I2 1) → (Z_3 (I2, f3))) ∧ (¬ x1 < (I2 1) → (v_Code_kind_0 I1 n3 f3 x1 (fun r u => (v_Reader_makeNumerator_29 I0 I1 I2 n3 f3 x1 r (v_Reader_makeNumerator_10 I0 I1 n3  Z_3 N) Z_3))))))) : v_Reader_makeNumerator_10 I0 I1 n3 Z_1 (N + 1) I2 f3 x1 → v_Reader_makeNumerator_10 I0 I1 n3 Z_2 (M + 1) I2 f3 x1 → v_Reader_makeNumerator_10 I0 I1 n3 Z_3 (N + 1) I2 f3 x1 := h
theorem y_Reader_makeNumerator_0 {I0 : Nat → Int32} {I1 : Nat → Int32} {I2 : Nat → Int32} {n3 : Nat} {f3 : Nat → Int32} {Z_1 Z_2 Z_3 : (Nat → Int32) × (Nat → Int32) → Prop} (h : ((∃ Nx, v_Reader_makeNumerator_10 I0 I1 n3  Z_1 Nx I2 f3 ((I1 4) - (1 : Int32)))) → ((∃ Nx, v_Reader_makeNumerator_10 I0 I1 n3  Z_2 Nx I2 f3 ((I1 4) - (1 : Int32)))) → ((∃ Nx, v_Reader_makeNumerator_10 I0 I1 n3  Z_3 Nx I2 f3 ((I1 4) - (1 : Int32))))) : v_Reader_makeNumerator_0 I0 I1 I2 n3 f3 Z_1 → v_Reader_makeNumerator_0 I0 I1 I2 n3 f3 Z_2 → v_Reader_makeNumerator_0 I0 I1 I2 n3 f3 Z_3 := h
theorem y_Reader_placesFrom_17 {I0 : Nat → Int32} {n1 : Nat} {f1 : Nat → Int32} {x1 : Int32} {x2 : Int32} {s0 : Int32} {k2_1 k2_2 k2_3 : Int32 → Prop} {Z_1 Z_2 Z_3 : Int32 → Unit → Prop} (h : (((s0 = 0 → (Z_1 x2 ())) ∧ (¬ s0 = 0 → (k2_1 (x2 + (1 : Int32)))))) → (((s0 = 0 → (Z_2 x2 ())) ∧ (¬ s0 = 0 → (k2_2 (x2 + (1 : Int32)))))) → (((s0 = 0 → (Z_3 x2 ())) ∧ (¬ s0 = 0 → (k2_3 (x2 + (1 : Int32))))))) : v_Reader_placesFrom_17 I0 n1 f1 x1 x2 s0 k2_1 Z_1 → v_Reader_placesFrom_17 I0 n1 f1 x1 x2 s0 k2_2 Z_2 → v_Reader_placesFrom_17 I0 n1 f1 x1 x2 s0 k2_3 Z_3 := h
theorem y_Reader_placesFrom_14 {I0 : Nat → Int32} {n1 : Nat} {f1 : Nat → Int32} {x1 : Int32} {x2 : Int32} {s0 : Int32} {k2_1 k2_2 k2_3 : Int32 → Prop} {Z_1 Z_2 Z_3 : Int32 → Unit → Prop} (h : ((v_Reader_isPlace_0 s0 (fun r u => (v_Reader_placesFrom_17 I0 n1 f1 x1 x2 r k2_1 Z_1)))) → ((v_Reader_isPlace_0 s0 (fun r u => (v_Reader_placesFrom_17 I0 n1 f1 x1 x2 r k2_2 Z_2)))) → ((v_Reader_isPlace_0 s0 (fun r u => (v_Reader_placesFrom_17 I0 n1 f1 x1 x2 r k2_3 Z_3))))) : v_Reader_placesFrom_14 I0 n1 f1 x1 x2 s0 k2_1 Z_1 → v_Reader_placesFrom_14 I0 n1 f1 x1 x2 s0 k2_2 Z_2 → v_Reader_placesFrom_14 I0 n1 f1 x1 x2 s0 k2_3 Z_3 := h
theorem y_Reader_placesFrom_2 {I0 : Nat → Int32} {n1 : Nat} {f1 : Nat → Int32} {x1 : Int32} {Z_1 Z_2 Z_3 : Int32 → Unit → Prop} {N M : Nat} {x2 : Int32} (h : ((((3 : Int32) ≤ x2 → (Z_1 x2 ())) ∧ (¬ (3 : Int32) ≤ x2 → (v_Reader_sign_0 I0 n1 f1 (x1 + x2) (fun r u => (v_Reader_placesFrom_14 I0 n1 f1 x1 x2 r (v_Reader_placesFrom_2 I0 n1 f1 x1  Z_1 N) Z_1)))))) → ((((3 : Int32) ≤ x2 → (Z_2 x2 ())) ∧ (¬ (3 : Int32) ≤ x2 → (v_Reader_sign_0 I0 n1 f1 (x1 + x2) (fun r u => (v_Reader_placesFrom_14 I0 n1 f1 x1 x2 r (v_Reader_placesFrom_2 I0 n1 f1 x1  Z_2 M) Z_2)))))) → ((((3 : Int32) ≤ x2 → (Z_3 x2 ())) ∧ (¬ (3 : Int32) ≤ x2 → (v_Reader_sign_0 I0 n1 f1 (x1 + x2) (fun r u => (v_Reader_placesFrom_14 I0 n1 f1 x1 x2 r (v_Reader_placesFrom_2 I0 n1 f1 x1  Z_3 N) Z_3))))))) : v_Reader_placesFrom_2 I0 n1 f1 x1 Z_1 (N + 1) x2 → v_Reader_placesFrom_2 I0 n1 f1 x1 Z_2 (M + 1) x2 → v_Reader_placesFrom_2 I0 n1 f1 x1 Z_3 (N + 1) x2 := h
theorem y_Reader_placesFrom_0 {I0 : Nat → Int32} {n1 : Nat} {f1 : Nat → Int32} {x1 : Int32} {Z_1 Z_2 Z_3 : Int32 → Unit → Prop} (h : ((∃ Nx, v_Reader_placesFrom_2 I0 n1 f1 x1  Z_1 Nx (0 : Int32))) → ((∃ Nx, v_Reader_placesFrom_2 I0 n1 f1 x1  Z_2 Nx (0 : Int32))) → ((∃ Nx, v_Reader_placesFrom_2 I0 n1 f1 x1  Z_3 Nx (0 : Int32)))) : v_Reader_placesFrom_0 I0 n1 f1 x1 Z_1 → v_Reader_placesFrom_0 I0 n1 f1 x1 Z_2 → v_Reader_placesFrom_0 I0 n1 f1 x1 Z_3 := h
theorem y_Section_hasCommaOrPercent_0 {I0 : Nat → Int32} {Z_1 Z_2 Z_3 : Int32 → Unit → Prop} (h : (((¬ (I0 6) = 0 → (Z_1 (1 : Int32) ())) ∧ ((I0 6) = 0 → ((0 < (I0 7) → (Z_1 (1 : Int32) ())) ∧ (¬ 0 < (I0 7) → (((I0 8) ≤ 0 → (Z_1 (0 : Int32) ())) ∧ (¬ (I0 8) ≤ 0 → (Z_1 (1 : Int32) ())))))))) → (((¬ (I0 6) = 0 → (Z_2 (1 : Int32) ())) ∧ ((I0 6) = 0 → ((0 < (I0 7) → (Z_2 (1 : Int32) ())) ∧ (¬ 0 < (I0 7) → (((I0 8) ≤ 0 → (Z_2 (0 : Int32) ())) ∧ (¬ (I0 8) ≤ 0 → (Z_2 (1 : Int32) ())))))))) → (((¬ (I0 6) = 0 → (Z_3 (1 : Int32) ())) ∧ ((I0 6) = 0 → ((0 < (I0 7) → (Z_3 (1 : Int32) ())) ∧ (¬ 0 < (I0 7) → (((I0 8) ≤ 0 → (Z_3 (0 : Int32) ())) ∧ (¬ (I0 8) ≤ 0 → (Z_3 (1 : Int32) ()))))))))) : v_Section_hasCommaOrPercent_0 I0 Z_1 → v_Section_hasCommaOrPercent_0 I0 Z_2 → v_Section_hasCommaOrPercent_0 I0 Z_3 := h
theorem y_Reader_readFraction_115 {I0 : Nat → Int32} {n1 : Nat} {f1 : Nat → Int32} {I2 : Nat → Int32} {I3 : Nat → Int32} {n4 : Nat} {f4 : Nat → Int32} {n5 : Nat} {f5 : Nat → Int32} {x1 : Int32} {x2 : Int32} {x3 : Int32} {x5 : Int32} {k90_1 k90_2 k90_3 : (Nat → Int32) → (Nat → Int32) → (Nat → Int32) → Int32 → Prop} {Z_1 Z_2 Z_3 : Int32 → (Nat → Int32) × (Nat → Int32) × (Nat → Int32) × (Nat → Int32) → Prop} (h : ((k90_1 I2 f4 f5 (x5 + (1 : Int32)))) → ((k90_2 I2 f4 f5 (x5 + (1 : Int32)))) → ((k90_3 I2 f4 f5 (x5 + (1 : Int32))))) : v_Reader_readFraction_115 I0 n1 f1 I2 I3 n4 f4 n5 f5 x1 x2 x3 x5 k90_1 Z_1 → v_Reader_readFraction_115 I0 n1 f1 I2 I3 n4 f4 n5 f5 x1 x2 x3 x5 k90_2 Z_2 → v_Reader_readFraction_115 I0 n1 f1 I2 I3 n4 f4 n5 f5 x1 x2 x3 x5 k90_3 Z_3 := h
theorem y_Reader_readFraction_112 {I0 : Nat → Int32} {n1 : Nat} {f1 : Nat → Int32} {I2 : Nat → Int32} {I3 : Nat → Int32} {n4 : Nat} {f4 : Nat → Int32} {n5 : Nat} {f5 : Nat → Int32} {x1 : Int32} {x2 : Int32} {x3 : Int32} {x5 : Int32} {s1 : Int32} {s2 : Int32} {k90_1 k90_2 k90_3 : (Nat → Int32) → (Nat → Int32) → (Nat → Int32) → Int32 → Prop} {Z_1 Z_2 Z_3 : Int32 → (Nat → Int32) × (Nat → Int32) × (Nat → Int32) × (Nat → Int32) → Prop} (h : ((v_Code_add_0 I2 n4 f4 n5 f5 s1 s2 (fun u => (v_Reader_readFraction_115 I0 n1 f1 u.1 I3 n4 u.2.1 n5 u.2.2 x1 x2 x3 x5 k90_1 Z_1)))) → ((v_Code_add_0 I2 n4 f4 n5 f5 s1 s2 (fun u => (v_Reader_readFraction_115 I0 n1 f1 u.1 I3 n4 u.2.1 n5 u.2.2 x1 x2 x3 x5 k90_2 Z_2)))) → ((v_Code_add_0 I2 n4 f4 n5 f5 s1 s2 (fun u => (v_Reader_readFraction_115 I0 n1 f1 u.1 I3 n4 u.2.1 n5 u.2.2 x1 x2 x3 x5 k90_3 Z_3))))) : v_Reader_readFraction_112 I0 n1 f1 I2 I3 n4 f4 n5 f5 x1 x2 x3 x5 s1 s2 k90_1 Z_1 → v_Reader_readFraction_112 I0 n1 f1 I2 I3 n4 f4 n5 f5 x1 x2 x3 x5 s1 s2 k90_2 Z_2 → v_Reader_readFraction_112 I0 n1 f1 I2 I3 n4 f4 n5 f5 x1 x2 x3 x5 s1 s2 k90_3 Z_3 := h
theorem y_Reader_readFraction_173 {I0 : Nat → Int32} {n1 : Nat} {f1 : Nat → Int32} {I2 : Nat → Int32} {I3 : Nat → Int32} {n4 : Nat} {f4 : Nat → Int32} {n5 : Nat} {f5 : Nat → Int32} {x1 : Int32} {x2 : Int32} {x3 : Int32} {x5 : Int32} {s1 : Int32} {s2 : Int32} {k124_1 k124_2 k124_3 : (Nat → Int32) → (Nat → Int32) → (Nat → Int32) → (Nat → Int32) → Int32 → Prop} {Z_1 Z_2 Z_3 : Int32 → (Nat → Int32) × (Nat → Int32) × (Nat → Int32) × (Nat → Int32) → Prop} (h : ((k124_1 I2 (zu I3 12 (s1 + (s2 - (48 : Int32)))) f4 f5 (x5 + (1 : Int32)))) → ((k124_2 I2 (zu I3 12 (s1 + (s2 - (48 : Int32)))) f4 f5 (x5 + (1 : Int32)))) → ((k124_3 I2 (zu I3 12 (s1 + (s2 - (48 : Int32)))) f4 f5 (x5 + (1 : Int32))))) : v_Reader_readFraction_173 I0 n1 f1 I2 I3 n4 f4 n5 f5 x1 x2 x3 x5 s1 s2 k124_1 Z_1 → v_Reader_readFraction_173 I0 n1 f1 I2 I3 n4 f4 n5 f5 x1 x2 x3 x5 s1 s2 k124_2 Z_2 → v_Reader_readFraction_173 I0 n1 f1 I2 I3 n4 f4 n5 f5 x1 x2 x3 x5 s1 s2 k124_3 Z_3 := h
theorem y_Reader_readFraction_149 {I0 : Nat → Int32} {n1 : Nat} {f1 : Nat → Int32} {I2 : Nat → Int32} {I3 : Nat → Int32} {n4 : Nat} {f4 : Nat → Int32} {n5 : Nat} {f5 : Nat → Int32} {x1 : Int32} {x2 : Int32} {x3 : Int32} {x5 : Int32} {k124_1 k124_2 k124_3 : (Nat → Int32) → (Nat → Int32) → (Nat → Int32) → (Nat → Int32) → Int32 → Prop} {Z_1 Z_2 Z_3 : Int32 → (Nat → Int32) × (Nat → Int32) × (Nat → Int32) × (Nat → Int32) → Prop} (h : ((v_Reader_sign_0 I0 n1 f1 ((x1 + (1 : Int32)) + x5) (fun r u => (v_Reader_readFraction_173 I0 n1 f1 I2 I3 n4 f4 n5 f5 x1 x2 x3 x5 ((I3 12) * (10 : Int32)) r k124_1 Z_1)))) → ((v_Reader_sign_0 I0 n1 f1 ((x1 + (1 : Int32)) + x5) (fun r u => (v_Reader_readFraction_173 I0 n1 f1 I2 I3 n4 f4 n5 f5 x1 x2 x3 x5 ((I3 12) * (10 : Int32)) r k124_2 Z_2)))) → ((v_Reader_sign_0 I0 n1 f1 ((x1 + (1 : Int32)) + x5) (fun r u => (v_Reader_readFraction_173 I0 n1 f1 I2 I3 n4 f4 n5 f5 x1 x2 x3 x5 ((I3 12) * (10 : Int32)) r k124_3 Z_3))))) : v_Reader_readFraction_149 I0 n1 f1 I2 I3 n4 f4 n5 f5 x1 x2 x3 x5 k124_1 Z_1 → v_Reader_readFraction_149 I0 n1 f1 I2 I3 n4 f4 n5 f5 x1 x2 x3 x5 k124_2 Z_2 → v_Reader_readFraction_149 I0 n1 f1 I2 I3 n4 f4 n5 f5 x1 x2 x3 x5 k124_3 Z_3 := h
theorem y_Reader_readFraction_146 {I0 : Nat → Int32} {n1 : Nat} {f1 : Nat → Int32} {I2 : Nat → Int32} {I3 : Nat → Int32} {n4 : Nat} {f4 : Nat → Int32} {n5 : Nat} {f5 : Nat → Int32} {x1 : Int32} {x2 : Int32} {x3 : Int32} {x5 : Int32} {s1 : Int32} {s2 : Int32} {k124_1 k124_2 k124_3 : (Nat → Int32) → (Nat → Int32) → (Nat → Int32) → (Nat → Int32) → Int32 → Prop} {Z_1 Z_2 Z_3 : Int32 → (Nat → Int32) × (Nat → Int32) × (Nat → Int32) × (Nat → Int32) → Prop} (h : ((v_Code_add_0 I2 n4 f4 n5 f5 s1 s2 (fun u => (v_Reader_readFraction_149 I0 n1 f1 u.1 I3 n4 u.2.1 n5 u.2.2 x1 x2 x3 x5 k124_1 Z_1)))) → ((v_Code_add_0 I2 n4 f4 n5 f5 s1 s2 (fun u => (v_Reader_readFraction_149 I0 n1 f1 u.1 I3 n4 u.2.1 n5 u.2.2 x1 x2 x3 x5 k124_2 Z_2)))) → ((v_Code_add_0 I2 n4 f4 n5 f5 s1 s2 (fun u => (v_Reader_readFraction_149 I0 n1 f1 u.1 I3 n4 u.2.1 n5 u.2.2 x1 x2 x3 x5 k124_3 Z_3))))) : v_Reader_readFraction_146 I0 n1 f1 I2 I3 n4 f4 n5 f5 x1 x2 x3 x5 s1 s2 k124_1 Z_1 → v_Reader_readFraction_146 I0 n1 f1 I2 I3 n4 f4 n5 f5 x1 x2 x3 x5 s1 s2 k124_2 Z_2 → v_Reader_readFraction_146 I0 n1 f1 I2 I3 n4 f4 n5 f5 x1 x2 x3 x5 s1 s2 k124_3 Z_3 := h
theorem y_Reader_readFraction_124 {I0 : Nat → Int32} {n1 : Nat} {f1 : Nat → Int32} {n4 : Nat} {n5 : Nat} {x1 : Int32} {x2 : Int32} {x3 : Int32} {Z_1 Z_2 Z_3 : Int32 → (Nat → Int32) × (Nat → Int32) × (Nat → Int32) × (Nat → Int32) → Prop} {N M : Nat} {I2 : (Nat → Int32)} {I3 : (Nat → Int32)} {f4 : (Nat → Int32)} {f5 : (Nat → Int32)} {x5 : Int32} (h : (((x3 ≤ x5 → (Z_1 (((1 : Int32) + x2) + x3) (I2, (zu I3 11 x2), f4, f5))) ∧ (¬ x3 ≤ x5 → (v_Reader_sign_0 I0 n1 f1 ((x1 + (1 : Int32)) + x5) (fun r u => (v_Reader_readFraction_146 I0 n1 f1 I2 I3 n4 f4 n5 f5 x1 x2 x3 x5 (12 : Int32) r (v_Reader_readFraction_124 I0 n1 f1 n4 n5 x1 x2 x3  Z_1 N) Z_1)))))) → (((x3 ≤ x5 → (Z_2 (((1 : Int32) + x2) + x3) (I2, (zu I3 11 x2), f4, f5))) ∧ (¬ x3 ≤ x5 → (v_Reader_sign_0 I0 n1 f1 ((x1 + (1 : Int32)) + x5) (fun r u => (v_Reader_readFraction_146 I0 n1 f1 I2 I3 n4 f4 n5 f5 x1 x2 x3 x5 (12 : Int32) r (v_Reader_readFraction_124 I0 n1 f1 n4 n5 x1 x2 x3  Z_2 M) Z_2)))))) → (((x3 ≤ x5 → (Z_3 (((1 : Int32) + x2) + x3) (I2, (zu I3 11 x2), f4, f5))) ∧ (¬ x3 ≤ x5 → (v_Reader_sign_0 I0 n1 f1 ((x1 + (1 : Int32)) + x5) (fun r u => (v_Reader_readFraction_146 I0 n1 f1 I2 I3 n4 f4 n5 f5 x1 x2 x3 x5 (12 : Int32) r (v_Reader_readFraction_124 I0 n1 f1 n4 n5 x1 x2 x3  Z_3 N) Z_3))))))) : v_Reader_readFraction_124 I0 n1 f1 n4 n5 x1 x2 x3 Z_1 (N + 1) I2 I3 f4 f5 x5 → v_Reader_readFraction_124 I0 n1 f1 n4 n5 x1 x2 x3 Z_2 (M + 1) I2 I3 f4 f5 x5 → v_Reader_readFraction_124 I0 n1 f1 n4 n5 x1 x2 x3 Z_3 (N + 1) I2 I3 f4 f5 x5 := h
theorem y_Reader_readFraction_90 {I0 : Nat → Int32} {n1 : Nat} {f1 : Nat → Int32} {I3 : Nat → Int32} {n4 : Nat} {n5 : Nat} {x1 : Int32} {x2 : Int32} {x3 : Int32} {Z_1 Z_2 Z_3 : Int32 → (Nat → Int32) × (Nat → Int32) × (Nat → Int32) × (Nat → Int32) → Prop} {N M : Nat} {I2 : (Nat → Int32)} {f4 : (Nat → Int32)} {f5 : (Nat → Int32)} {x5 : Int32} (h : (((x2 ≤ x5 → (∃ Nx, v_Reader_readFraction_124 I0 n1 f1 n4 n5 x1 x2 x3  Z_1 Nx I2 I3 f4 f5 (0 : Int32))) ∧ (¬ x2 ≤ x5 → (v_Reader_sign_0 I0 n1 f1 ((x1 + (1 : Int32)) + x5) (fun r u => (v_Reader_readFraction_112 I0 n1 f1 I2 I3 n4 f4 n5 f5 x1 x2 x3 x5 (11 : Int32) r (v_Reader_readFraction_90 I0 n1 f1 I3 n4 n5 x1 x2 x3  Z_1 N) Z_1)))))) → (((x2 ≤ x5 → (∃ Nx, v_Reader_readFraction_124 I0 n1 f1 n4 n5 x1 x2 x3  Z_2 Nx I2 I3 f4 f5 (0 : Int32))) ∧ (¬ x2 ≤ x5 → (v_Reader_sign_0 I0 n1 f1 ((x1 + (1 : Int32)) + x5) (fun r u => (v_Reader_readFraction_112 I0 n1 f1 I2 I3 n4 f4 n5 f5 x1 x2 x3 x5 (11 : Int32) r (v_Reader_readFraction_90 I0 n1 f1 I3 n4 n5 x1 x2 x3  Z_2 M) Z_2)))))) → (((x2 ≤ x5 → (∃ Nx, v_Reader_readFraction_124 I0 n1 f1 n4 n5 x1 x2 x3  Z_3 Nx I2 I3 f4 f5 (0 : Int32))) ∧ (¬ x2 ≤ x5 → (v_Reader_sign_0 I0 n1 f1 ((x1 + (1 : Int32)) + x5) (fun r u => (v_Reader_readFraction_112 I0 n1 f1 I2 I3 n4 f4 n5 f5 x1 x2 x3 x5 (11 : Int32) r (v_Reader_readFraction_90 I0 n1 f1 I3 n4 n5 x1 x2 x3  Z_3 N) Z_3))))))) : v_Reader_readFraction_90 I0 n1 f1 I3 n4 n5 x1 x2 x3 Z_1 (N + 1) I2 f4 f5 x5 → v_Reader_readFraction_90 I0 n1 f1 I3 n4 n5 x1 x2 x3 Z_2 (M + 1) I2 f4 f5 x5 → v_Reader_readFraction_90 I0 n1 f1 I3 n4 n5 x1 x2 x3 Z_3 (N + 1) I2 f4 f5 x5 := h
theorem y_Reader_readFraction_87 {I0 : Nat → Int32} {n1 : Nat} {f1 : Nat → Int32} {I2 : Nat → Int32} {I3 : Nat → Int32} {n4 : Nat} {f4 : Nat → Int32} {n5 : Nat} {f5 : Nat → Int32} {x1 : Int32} {x2 : Int32} {x3 : Int32} {Z_1 Z_2 Z_3 : Int32 → (Nat → Int32) × (Nat → Int32) × (Nat → Int32) × (Nat → Int32) → Prop} (h : ((∃ Nx, v_Reader_readFraction_90 I0 n1 f1 I3 n4 n5 x1 x2 x3  Z_1 Nx I2 f4 f5 (0 : Int32))) → ((∃ Nx, v_Reader_readFraction_90 I0 n1 f1 I3 n4 n5 x1 x2 x3  Z_2 Nx I2 f4 f5 (0 : Int32))) → ((∃ Nx, v_Reader_readFraction_90 I0 n1 f1 I3 n4 n5 x1 x2 x3  Z_3 Nx I2 f4 f5 (0 : Int32)))) : v_Reader_readFraction_87 I0 n1 f1 I2 I3 n4 f4 n5 f5 x1 x2 x3 Z_1 → v_Reader_readFraction_87 I0 n1 f1 I2 I3 n4 f4 n5 f5 x1 x2 x3 Z_2 → v_Reader_readFraction_87 I0 n1 f1 I2 I3 n4 f4 n5 f5 x1 x2 x3 Z_3 := h
theorem y_Reader_readFraction_76 {I0 : Nat → Int32} {n1 : Nat} {f1 : Nat → Int32} {I2 : Nat → Int32} {I3 : Nat → Int32} {n4 : Nat} {f4 : Nat → Int32} {n5 : Nat} {f5 : Nat → Int32} {x1 : Int32} {x2 : Int32} {x3 : Int32} {Z_1 Z_2 Z_3 : Int32 → (Nat → Int32) × (Nat → Int32) × (Nat → Int32) × (Nat → Int32) → Prop} (h : ((v_Code_add_0 I2 n4 f4 n5 f5 (10 : Int32) (47 : Int32) (fun u => (v_Reader_readFraction_87 I0 n1 f1 u.1 I3 n4 u.2.1 n5 u.2.2 x1 x2 x3  Z_1)))) → ((v_Code_add_0 I2 n4 f4 n5 f5 (10 : Int32) (47 : Int32) (fun u => (v_Reader_readFraction_87 I0 n1 f1 u.1 I3 n4 u.2.1 n5 u.2.2 x1 x2 x3  Z_2)))) → ((v_Code_add_0 I2 n4 f4 n5 f5 (10 : Int32) (47 : Int32) (fun u => (v_Reader_readFraction_87 I0 n1 f1 u.1 I3 n4 u.2.1 n5 u.2.2 x1 x2 x3  Z_3))))) : v_Reader_readFraction_76 I0 n1 f1 I2 I3 n4 f4 n5 f5 x1 x2 x3 Z_1 → v_Reader_readFraction_76 I0 n1 f1 I2 I3 n4 f4 n5 f5 x1 x2 x3 Z_2 → v_Reader_readFraction_76 I0 n1 f1 I2 I3 n4 f4 n5 f5 x1 x2 x3 Z_3 := h
theorem y_Reader_readFraction_49 {I0 : Nat → Int32} {n1 : Nat} {f1 : Nat → Int32} {I2 : Nat → Int32} {I3 : Nat → Int32} {n4 : Nat} {f4 : Nat → Int32} {n5 : Nat} {f5 : Nat → Int32} {x1 : Int32} {x2 : Int32} {x3 : Int32} {s0 : Int32} {Z_1 Z_2 Z_3 : Int32 → (Nat → Int32) × (Nat → Int32) × (Nat → Int32) × (Nat → Int32) → Prop} (h : (((s0 = 0 → (Z_1 (0 : Int32) (I2, I3, f4, f5))) ∧ (¬ s0 = 0 → ((¬ (x2 + x3) = 0 → (v_Reader_makeNumerator_0 I0 I2 (zu I3 0 (4 : Int32)) n4 f4 (fun u => (v_Reader_readFraction_76 I0 n1 f1 I2 u.1 n4 u.2 n5 f5 x1 x2 x3  Z_1)))) ∧ ((x2 + x3) = 0 → (Z_1 (0 : Int32) (I2, I3, f4, f5))))))) → (((s0 = 0 → (Z_2 (0 : Int32) (I2, I3, f4, f5))) ∧ (¬ s0 = 0 → ((¬ (x2 + x3) = 0 → (v_Reader_makeNumerator_0 I0 I2 (zu I3 0 (4 : Int32)) n4 f4 (fun u => (v_Reader_readFraction_76 I0 n1 f1 I2 u.1 n4 u.2 n5 f5 x1 x2 x3  Z_2)))) ∧ ((x2 + x3) = 0 → (Z_2 (0 : Int32) (I2, I3, f4, f5))))))) → (((s0 = 0 → (Z_3 (0 : Int32) (I2, I3, f4, f5))) ∧ (¬ s0 = 0 → ((¬ (x2 + x3) = 0 → (v_Reader_makeNumerator_0 I0 I2 (zu I3 0 (4 : Int32)) n4 f4 (fun u => (v_Reader_readFraction_76 I0 n1 f1 I2 u.1 n4 u.2 n5 f5 x1 x2 x3  Z_3)))) ∧ ((x2 + x3) = 0 → (Z_3 (0 : Int32) (I2, I3, f4, f5)))))))) : v_Reader_readFraction_49 I0 n1 f1 I2 I3 n4 f4 n5 f5 x1 x2 x3 s0 Z_1 → v_Reader_readFraction_49 I0 n1 f1 I2 I3 n4 f4 n5 f5 x1 x2 x3 s0 Z_2 → v_Reader_readFraction_49 I0 n1 f1 I2 I3 n4 f4 n5 f5 x1 x2 x3 s0 Z_3 := h
theorem y_Reader_readFraction_48 {I0 : Nat → Int32} {n1 : Nat} {f1 : Nat → Int32} {I2 : Nat → Int32} {I3 : Nat → Int32} {n4 : Nat} {f4 : Nat → Int32} {n5 : Nat} {f5 : Nat → Int32} {x1 : Int32} {x2 : Int32} {x3 : Int32} {Z_1 Z_2 Z_3 : Int32 → (Nat → Int32) × (Nat → Int32) × (Nat → Int32) × (Nat → Int32) → Prop} (h : ((v_Reader_readFraction_49 I0 n1 f1 I2 I3 n4 f4 n5 f5 x1 x2 x3 (0 : Int32)  Z_1)) → ((v_Reader_readFraction_49 I0 n1 f1 I2 I3 n4 f4 n5 f5 x1 x2 x3 (0 : Int32)  Z_2)) → ((v_Reader_readFraction_49 I0 n1 f1 I2 I3 n4 f4 n5 f5 x1 x2 x3 (0 : Int32)  Z_3))) : v_Reader_readFraction_48 I0 n1 f1 I2 I3 n4 f4 n5 f5 x1 x2 x3 Z_1 → v_Reader_readFraction_48 I0 n1 f1 I2 I3 n4 f4 n5 f5 x1 x2 x3 Z_2 → v_Reader_readFraction_48 I0 n1 f1 I2 I3 n4 f4 n5 f5 x1 x2 x3 Z_3 := h
theorem y_Reader_readFraction_31 {I0 : Nat → Int32} {n1 : Nat} {f1 : Nat → Int32} {I2 : Nat → Int32} {I3 : Nat → Int32} {n4 : Nat} {f4 : Nat → Int32} {n5 : Nat} {f5 : Nat → Int32} {x1 : Int32} {x2 : Int32} {x3 : Int32} {s0 : Int32} {Z_1 Z_2 Z_3 : Int32 → (Nat → Int32) × (Nat → Int32) × (Nat → Int32) × (Nat → Int32) → Prop} (h : (((¬ s0 = 0 → (v_Reader_readFraction_48 I0 n1 f1 I2 I3 n4 f4 n5 f5 x1 x2 x3  Z_1)) ∧ (s0 = 0 → ((¬ (I3 5) = 0 → (v_Reader_readFraction_48 I0 n1 f1 I2 I3 n4 f4 n5 f5 x1 x2 x3  Z_1)) ∧ ((I3 5) = 0 → (v_Reader_readFraction_49 I0 n1 f1 I2 I3 n4 f4 n5 f5 x1 x2 x3 (1 : Int32)  Z_1)))))) → (((¬ s0 = 0 → (v_Reader_readFraction_48 I0 n1 f1 I2 I3 n4 f4 n5 f5 x1 x2 x3  Z_2)) ∧ (s0 = 0 → ((¬ (I3 5) = 0 → (v_Reader_readFraction_48 I0 n1 f1 I2 I3 n4 f4 n5 f5 x1 x2 x3  Z_2)) ∧ ((I3 5) = 0 → (v_Reader_readFraction_49 I0 n1 f1 I2 I3 n4 f4 n5 f5 x1 x2 x3 (1 : Int32)  Z_2)))))) → (((¬ s0 = 0 → (v_Reader_readFraction_48 I0 n1 f1 I2 I3 n4 f4 n5 f5 x1 x2 x3  Z_3)) ∧ (s0 = 0 → ((¬ (I3 5) = 0 → (v_Reader_readFraction_48 I0 n1 f1 I2 I3 n4 f4 n5 f5 x1 x2 x3  Z_3)) ∧ ((I3 5) = 0 → (v_Reader_readFraction_49 I0 n1 f1 I2 I3 n4 f4 n5 f5 x1 x2 x3 (1 : Int32)  Z_3))))))) : v_Reader_readFraction_31 I0 n1 f1 I2 I3 n4 f4 n5 f5 x1 x2 x3 s0 Z_1 → v_Reader_readFraction_31 I0 n1 f1 I2 I3 n4 f4 n5 f5 x1 x2 x3 s0 Z_2 → v_Reader_readFraction_31 I0 n1 f1 I2 I3 n4 f4 n5 f5 x1 x2 x3 s0 Z_3 := h
theorem y_Reader_readFraction_20 {I0 : Nat → Int32} {n1 : Nat} {f1 : Nat → Int32} {I2 : Nat → Int32} {I3 : Nat → Int32} {n4 : Nat} {f4 : Nat → Int32} {n5 : Nat} {f5 : Nat → Int32} {x1 : Int32} {x2 : Int32} {x3 : Int32} {s0 : Int32} {Z_1 Z_2 Z_3 : Int32 → (Nat → Int32) × (Nat → Int32) × (Nat → Int32) × (Nat → Int32) → Prop} (h : (((¬ s0 = (2 : Int32) → (v_Reader_readFraction_48 I0 n1 f1 I2 I3 n4 f4 n5 f5 x1 x2 x3  Z_1)) ∧ (s0 = (2 : Int32) → (v_Section_hasCommaOrPercent_0 I3 (fun r u => (v_Reader_readFraction_31 I0 n1 f1 I2 I3 n4 f4 n5 f5 x1 x2 x3 r  Z_1)))))) → (((¬ s0 = (2 : Int32) → (v_Reader_readFraction_48 I0 n1 f1 I2 I3 n4 f4 n5 f5 x1 x2 x3  Z_2)) ∧ (s0 = (2 : Int32) → (v_Section_hasCommaOrPercent_0 I3 (fun r u => (v_Reader_readFraction_31 I0 n1 f1 I2 I3 n4 f4 n5 f5 x1 x2 x3 r  Z_2)))))) → (((¬ s0 = (2 : Int32) → (v_Reader_readFraction_48 I0 n1 f1 I2 I3 n4 f4 n5 f5 x1 x2 x3  Z_3)) ∧ (s0 = (2 : Int32) → (v_Section_hasCommaOrPercent_0 I3 (fun r u => (v_Reader_readFraction_31 I0 n1 f1 I2 I3 n4 f4 n5 f5 x1 x2 x3 r  Z_3))))))) : v_Reader_readFraction_20 I0 n1 f1 I2 I3 n4 f4 n5 f5 x1 x2 x3 s0 Z_1 → v_Reader_readFraction_20 I0 n1 f1 I2 I3 n4 f4 n5 f5 x1 x2 x3 s0 Z_2 → v_Reader_readFraction_20 I0 n1 f1 I2 I3 n4 f4 n5 f5 x1 x2 x3 s0 Z_3 := h
theorem y_Reader_readFraction_15 {I0 : Nat → Int32} {n1 : Nat} {f1 : Nat → Int32} {I2 : Nat → Int32} {I3 : Nat → Int32} {n4 : Nat} {f4 : Nat → Int32} {n5 : Nat} {f5 : Nat → Int32} {x1 : Int32} {x2 : Int32} {s0 : Int32} {Z_1 Z_2 Z_3 : Int32 → (Nat → Int32) × (Nat → Int32) × (Nat → Int32) × (Nat → Int32) → Prop} (h : ((v_Reader_kindBefore_0 I0 I2 I3 n4 f4 (fun r u => (v_Reader_readFraction_20 I0 n1 f1 I2 I3 n4 f4 n5 f5 x1 x2 s0 r  Z_1)))) → ((v_Reader_kindBefore_0 I0 I2 I3 n4 f4 (fun r u => (v_Reader_readFraction_20 I0 n1 f1 I2 I3 n4 f4 n5 f5 x1 x2 s0 r  Z_2)))) → ((v_Reader_kindBefore_0 I0 I2 I3 n4 f4 (fun r u => (v_Reader_readFraction_20 I0 n1 f1 I2 I3 n4 f4 n5 f5 x1 x2 s0 r  Z_3))))) : v_Reader_readFraction_15 I0 n1 f1 I2 I3 n4 f4 n5 f5 x1 x2 s0 Z_1 → v_Reader_readFraction_15 I0 n1 f1 I2 I3 n4 f4 n5 f5 x1 x2 s0 Z_2 → v_Reader_readFraction_15 I0 n1 f1 I2 I3 n4 f4 n5 f5 x1 x2 s0 Z_3 := h
theorem y_Reader_readFraction_7 {I0 : Nat → Int32} {n1 : Nat} {f1 : Nat → Int32} {I2 : Nat → Int32} {I3 : Nat → Int32} {n4 : Nat} {f4 : Nat → Int32} {n5 : Nat} {f5 : Nat → Int32} {x1 : Int32} {s0 : Int32} {Z_1 Z_2 Z_3 : Int32 → (Nat → Int32) × (Nat → Int32) × (Nat → Int32) × (Nat → Int32) → Prop} (h : ((v_Reader_digitsFrom_0 I0 n1 f1 (x1 + (1 : Int32)) (fun r u => (v_Reader_readFraction_15 I0 n1 f1 I2 I3 n4 f4 n5 f5 x1 s0 r  Z_1)))) → ((v_Reader_digitsFrom_0 I0 n1 f1 (x1 + (1 : Int32)) (fun r u => (v_Reader_readFraction_15 I0 n1 f1 I2 I3 n4 f4 n5 f5 x1 s0 r  Z_2)))) → ((v_Reader_digitsFrom_0 I0 n1 f1 (x1 + (1 : Int32)) (fun r u => (v_Reader_readFraction_15 I0 n1 f1 I2 I3 n4 f4 n5 f5 x1 s0 r  Z_3))))) : v_Reader_readFraction_7 I0 n1 f1 I2 I3 n4 f4 n5 f5 x1 s0 Z_1 → v_Reader_readFraction_7 I0 n1 f1 I2 I3 n4 f4 n5 f5 x1 s0 Z_2 → v_Reader_readFraction_7 I0 n1 f1 I2 I3 n4 f4 n5 f5 x1 s0 Z_3 := h
theorem y_Reader_readFraction_0 {I0 : Nat → Int32} {n1 : Nat} {f1 : Nat → Int32} {I2 : Nat → Int32} {I3 : Nat → Int32} {n4 : Nat} {f4 : Nat → Int32} {n5 : Nat} {f5 : Nat → Int32} {x1 : Int32} {Z_1 Z_2 Z_3 : Int32 → (Nat → Int32) × (Nat → Int32) × (Nat → Int32) × (Nat → Int32) → Prop} (h : ((v_Reader_placesFrom_0 I0 n1 f1 (x1 + (1 : Int32)) (fun r u => (v_Reader_readFraction_7 I0 n1 f1 I2 I3 n4 f4 n5 f5 x1 r  Z_1)))) → ((v_Reader_placesFrom_0 I0 n1 f1 (x1 + (1 : Int32)) (fun r u => (v_Reader_readFraction_7 I0 n1 f1 I2 I3 n4 f4 n5 f5 x1 r  Z_2)))) → ((v_Reader_placesFrom_0 I0 n1 f1 (x1 + (1 : Int32)) (fun r u => (v_Reader_readFraction_7 I0 n1 f1 I2 I3 n4 f4 n5 f5 x1 r  Z_3))))) : v_Reader_readFraction_0 I0 n1 f1 I2 I3 n4 f4 n5 f5 x1 Z_1 → v_Reader_readFraction_0 I0 n1 f1 I2 I3 n4 f4 n5 f5 x1 Z_2 → v_Reader_readFraction_0 I0 n1 f1 I2 I3 n4 f4 n5 f5 x1 Z_3 := h
theorem y_Reader_readPlace_29 {I0 : Nat → Int32} {I1 : Nat → Int32} {I2 : Nat → Int32} {n3 : Nat} {f3 : Nat → Int32} {n4 : Nat} {f4 : Nat → Int32} {s0 : Int32} {Z_1 Z_2 Z_3 : Int32 → (Nat → Int32) × (Nat → Int32) × (Nat → Int32) × (Nat → Int32) → Prop} (h : ((Z_1 s0 (I1, I2, f3, f4))) → ((Z_2 s0 (I1, I2, f3, f4))) → ((Z_3 s0 (I1, I2, f3, f4)))) : v_Reader_readPlace_29 I0 I1 I2 n3 f3 n4 f4 s0 Z_1 → v_Reader_readPlace_29 I0 I1 I2 n3 f3 n4 f4 s0 Z_2 → v_Reader_readPlace_29 I0 I1 I2 n3 f3 n4 f4 s0 Z_3 := h
theorem y_Reader_readPlace_61 {I0 : Nat → Int32} {I1 : Nat → Int32} {I2 : Nat → Int32} {n3 : Nat} {f3 : Nat → Int32} {n4 : Nat} {f4 : Nat → Int32} {s0 : Int32} {Z_1 Z_2 Z_3 : Int32 → (Nat → Int32) × (Nat → Int32) × (Nat → Int32) × (Nat → Int32) → Prop} (h : ((Z_1 s0 (I1, I2, f3, f4))) → ((Z_2 s0 (I1, I2, f3, f4))) → ((Z_3 s0 (I1, I2, f3, f4)))) : v_Reader_readPlace_61 I0 I1 I2 n3 f3 n4 f4 s0 Z_1 → v_Reader_readPlace_61 I0 I1 I2 n3 f3 n4 f4 s0 Z_2 → v_Reader_readPlace_61 I0 I1 I2 n3 f3 n4 f4 s0 Z_3 := h
theorem y_Reader_readPlace_0 {I0 : Nat → Int32} {I1 : Nat → Int32} {I2 : Nat → Int32} {n3 : Nat} {f3 : Nat → Int32} {n4 : Nat} {f4 : Nat → Int32} {x1 : Int32} {Z_1 Z_2 Z_3 : Int32 → (Nat → Int32) × (Nat → Int32) × (Nat → Int32) × (Nat → Int32) → Prop} (h : ((((I1 5) = 0 → (((I1 7) ≤ 0 → (v_Reader_addOne_0 I0 I2 n3 f3 n4 f4 (2 : Int32) x1 (fun r u => (v_Reader_readPlace_61 I0 (zu I1 3 ((I1 3) + (1 : Int32))) u.1 n3 u.2.1 n4 u.2.2 r  Z_1)))) ∧ (¬ (I1 7) ≤ 0 → (Z_1 (0 : Int32) (I1, I2, f3, f4))))) ∧ (¬ (I1 5) = 0 → (v_Reader_addOne_0 I0 I2 n3 f3 n4 f4 (3 : Int32) x1 (fun r u => (v_Reader_readPlace_29 I0 (zu I1 4 ((I1 4) + (1 : Int32))) u.1 n3 u.2.1 n4 u.2.2 r  Z_1)))))) → ((((I1 5) = 0 → (((I1 7) ≤ 0 → (v_Reader_addOne_0 I0 I2 n3 f3 n4 f4 (2 : Int32) x1 (fun r u => (v_Reader_readPlace_61 I0 (zu I1 3 ((I1 3) + (1 : Int32))) u.1 n3 u.2.1 n4 u.2.2 r  Z_2)))) ∧ (¬ (I1 7) ≤ 0 → (Z_2 (0 : Int32) (I1, I2, f3, f4))))) ∧ (¬ (I1 5) = 0 → (v_Reader_addOne_0 I0 I2 n3 f3 n4 f4 (3 : Int32) x1 (fun r u => (v_Reader_readPlace_29 I0 (zu I1 4 ((I1 4) + (1 : Int32))) u.1 n3 u.2.1 n4 u.2.2 r  Z_2)))))) → ((((I1 5) = 0 → (((I1 7) ≤ 0 → (v_Reader_addOne_0 I0 I2 n3 f3 n4 f4 (2 : Int32) x1 (fun r u => (v_Reader_readPlace_61 I0 (zu I1 3 ((I1 3) + (1 : Int32))) u.1 n3 u.2.1 n4 u.2.2 r  Z_3)))) ∧ (¬ (I1 7) ≤ 0 → (Z_3 (0 : Int32) (I1, I2, f3, f4))))) ∧ (¬ (I1 5) = 0 → (v_Reader_addOne_0 I0 I2 n3 f3 n4 f4 (3 : Int32) x1 (fun r u => (v_Reader_readPlace_29 I0 (zu I1 4 ((I1 4) + (1 : Int32))) u.1 n3 u.2.1 n4 u.2.2 r  Z_3))))))) : v_Reader_readPlace_0 I0 I1 I2 n3 f3 n4 f4 x1 Z_1 → v_Reader_readPlace_0 I0 I1 I2 n3 f3 n4 f4 x1 Z_2 → v_Reader_readPlace_0 I0 I1 I2 n3 f3 n4 f4 x1 Z_3 := h
theorem y_Reader_readPoint_27 {I0 : Nat → Int32} {I1 : Nat → Int32} {I2 : Nat → Int32} {n3 : Nat} {f3 : Nat → Int32} {n4 : Nat} {f4 : Nat → Int32} {s0 : Int32} {Z_1 Z_2 Z_3 : Int32 → (Nat → Int32) × (Nat → Int32) × (Nat → Int32) × (Nat → Int32) → Prop} (h : ((Z_1 s0 (I1, I2, f3, f4))) → ((Z_2 s0 (I1, I2, f3, f4))) → ((Z_3 s0 (I1, I2, f3, f4)))) : v_Reader_readPoint_27 I0 I1 I2 n3 f3 n4 f4 s0 Z_1 → v_Reader_readPoint_27 I0 I1 I2 n3 f3 n4 f4 s0 Z_2 → v_Reader_readPoint_27 I0 I1 I2 n3 f3 n4 f4 s0 Z_3 := h
theorem y_Reader_readPoint_0 {I0 : Nat → Int32} {I1 : Nat → Int32} {I2 : Nat → Int32} {n3 : Nat} {f3 : Nat → Int32} {n4 : Nat} {f4 : Nat → Int32} {Z_1 Z_2 Z_3 : Int32 → (Nat → Int32) × (Nat → Int32) × (Nat → Int32) × (Nat → Int32) → Prop} (h : ((((I1 5) = 0 → (v_Reader_addOne_0 I0 I2 n3 f3 n4 f4 (4 : Int32) (46 : Int32) (fun r u => (v_Reader_readPoint_27 I0 (zu I1 5 (1 : Int32)) u.1 n3 u.2.1 n4 u.2.2 r  Z_1)))) ∧ (¬ (I1 5) = 0 → (Z_1 (0 : Int32) (I1, I2, f3, f4))))) → ((((I1 5) = 0 → (v_Reader_addOne_0 I0 I2 n3 f3 n4 f4 (4 : Int32) (46 : Int32) (fun r u => (v_Reader_readPoint_27 I0 (zu I1 5 (1 : Int32)) u.1 n3 u.2.1 n4 u.2.2 r  Z_2)))) ∧ (¬ (I1 5) = 0 → (Z_2 (0 : Int32) (I1, I2, f3, f4))))) → ((((I1 5) = 0 → (v_Reader_addOne_0 I0 I2 n3 f3 n4 f4 (4 : Int32) (46 : Int32) (fun r u => (v_Reader_readPoint_27 I0 (zu I1 5 (1 : Int32)) u.1 n3 u.2.1 n4 u.2.2 r  Z_3)))) ∧ (¬ (I1 5) = 0 → (Z_3 (0 : Int32) (I1, I2, f3, f4)))))) : v_Reader_readPoint_0 I0 I1 I2 n3 f3 n4 f4 Z_1 → v_Reader_readPoint_0 I0 I1 I2 n3 f3 n4 f4 Z_2 → v_Reader_readPoint_0 I0 I1 I2 n3 f3 n4 f4 Z_3 := h
theorem y_Reader_readPower_141 {I0 : Nat → Int32} {I1 : Nat → Int32} {I2 : Nat → Int32} {n3 : Nat} {f3 : Nat → Int32} {n4 : Nat} {f4 : Nat → Int32} {n5 : Nat} {f5 : Nat → Int32} {x1 : Int32} {x4 : Int32} {x7 : Int32} {k115_1 k115_2 k115_3 : (Nat → Int32) → (Nat → Int32) → (Nat → Int32) → Int32 → Prop} {Z_1 Z_2 Z_3 : Int32 → (Nat → Int32) × (Nat → Int32) × (Nat → Int32) × (Nat → Int32) → Prop} (h : ((k115_1 I1 f3 f5 (x7 + (1 : Int32)))) → ((k115_2 I1 f3 f5 (x7 + (1 : Int32)))) → ((k115_3 I1 f3 f5 (x7 + (1 : Int32))))) : v_Reader_readPower_141 I0 I1 I2 n3 f3 n4 f4 n5 f5 x1 x4 x7 k115_1 Z_1 → v_Reader_readPower_141 I0 I1 I2 n3 f3 n4 f4 n5 f5 x1 x4 x7 k115_2 Z_2 → v_Reader_readPower_141 I0 I1 I2 n3 f3 n4 f4 n5 f5 x1 x4 x7 k115_3 Z_3 := h
theorem y_Reader_readPower_138 {I0 : Nat → Int32} {I1 : Nat → Int32} {I2 : Nat → Int32} {n3 : Nat} {f3 : Nat → Int32} {n4 : Nat} {f4 : Nat → Int32} {n5 : Nat} {f5 : Nat → Int32} {x1 : Int32} {x4 : Int32} {x7 : Int32} {s1 : Int32} {s2 : Int32} {k115_1 k115_2 k115_3 : (Nat → Int32) → (Nat → Int32) → (Nat → Int32) → Int32 → Prop} {Z_1 Z_2 Z_3 : Int32 → (Nat → Int32) × (Nat → Int32) × (Nat → Int32) × (Nat → Int32) → Prop} (h : ((v_Code_add_0 I1 n3 f3 n5 f5 s1 s2 (fun u => (v_Reader_readPower_141 I0 u.1 I2 n3 u.2.1 n4 f4 n5 u.2.2 x1 x4 x7 k115_1 Z_1)))) → ((v_Code_add_0 I1 n3 f3 n5 f5 s1 s2 (fun u => (v_Reader_readPower_141 I0 u.1 I2 n3 u.2.1 n4 f4 n5 u.2.2 x1 x4 x7 k115_2 Z_2)))) → ((v_Code_add_0 I1 n3 f3 n5 f5 s1 s2 (fun u => (v_Reader_readPower_141 I0 u.1 I2 n3 u.2.1 n4 f4 n5 u.2.2 x1 x4 x7 k115_3 Z_3))))) : v_Reader_readPower_138 I0 I1 I2 n3 f3 n4 f4 n5 f5 x1 x4 x7 s1 s2 k115_1 Z_1 → v_Reader_readPower_138 I0 I1 I2 n3 f3 n4 f4 n5 f5 x1 x4 x7 s1 s2 k115_2 Z_2 → v_Reader_readPower_138 I0 I1 I2 n3 f3 n4 f4 n5 f5 x1 x4 x7 s1 s2 k115_3 Z_3 := h
theorem y_Reader_readPower_115 {I0 : Nat → Int32} {I2 : Nat → Int32} {n3 : Nat} {n4 : Nat} {f4 : Nat → Int32} {n5 : Nat} {x1 : Int32} {x4 : Int32} {Z_1 Z_2 Z_3 : Int32 → (Nat → Int32) × (Nat → Int32) × (Nat → Int32) × (Nat → Int32) → Prop} {N M : Nat} {I1 : (Nat → Int32)} {f3 : (Nat → Int32)} {f5 : (Nat → Int32)} {x7 : Int32} (h : (((x4 ≤ x7 → (Z_1 ((2 : Int32) + x4) (I1, I2, f3, f5))) ∧ (¬ x4 ≤ x7 → (v_Reader_sign_0 I0 n4 f4 ((x1 + (2 : Int32)) + x7) (fun r u => (v_Reader_readPower_138 I0 I1 I2 n3 f3 n4 f4 n5 f5 x1 x4 x7 (8 : Int32) r (v_Reader_readPower_115 I0 I2 n3 n4 f4 n5 x1 x4  Z_1 N) Z_1)))))) → (((x4 ≤ x7 → (Z_2 ((2 : Int32) + x4) (I1, I2, f3, f5))) ∧ (¬ x4 ≤ x7 → (v_Reader_sign_0 I0 n4 f4 ((x1 + (2 : Int32)) + x7) (fun r u => (v_Reader_readPower_138 I0 I1 I2 n3 f3 n4 f4 n5 f5 x1 x4 x7 (8 : Int32) r (v_Reader_readPower_115 I0 I2 n3 n4 f4 n5 x1 x4  Z_2 M) Z_2)))))) → (((x4 ≤ x7 → (Z_3 ((2 : Int32) + x4) (I1, I2, f3, f5))) ∧ (¬ x4 ≤ x7 → (v_Reader_sign_0 I0 n4 f4 ((x1 + (2 : Int32)) + x7) (fun r u => (v_Reader_readPower_138 I0 I1 I2 n3 f3 n4 f4 n5 f5 x1 x4 x7 (8 : Int32) r (v_Reader_readPower_115 I0 I2 n3 n4 f4 n5 x1 x4  Z_3 N) Z_3))))))) : v_Reader_readPower_115 I0 I2 n3 n4 f4 n5 x1 x4 Z_1 (N + 1) I1 f3 f5 x7 → v_Reader_readPower_115 I0 I2 n3 n4 f4 n5 x1 x4 Z_2 (M + 1) I1 f3 f5 x7 → v_Reader_readPower_115 I0 I2 n3 n4 f4 n5 x1 x4 Z_3 (N + 1) I1 f3 f5 x7 := h
theorem y_Reader_readPower_112 {I0 : Nat → Int32} {I1 : Nat → Int32} {I2 : Nat → Int32} {n3 : Nat} {f3 : Nat → Int32} {n4 : Nat} {f4 : Nat → Int32} {n5 : Nat} {f5 : Nat → Int32} {x1 : Int32} {x4 : Int32} {Z_1 Z_2 Z_3 : Int32 → (Nat → Int32) × (Nat → Int32) × (Nat → Int32) × (Nat → Int32) → Prop} (h : ((∃ Nx, v_Reader_readPower_115 I0 I2 n3 n4 f4 n5 x1 x4  Z_1 Nx I1 f3 f5 (0 : Int32))) → ((∃ Nx, v_Reader_readPower_115 I0 I2 n3 n4 f4 n5 x1 x4  Z_2 Nx I1 f3 f5 (0 : Int32))) → ((∃ Nx, v_Reader_readPower_115 I0 I2 n3 n4 f4 n5 x1 x4  Z_3 Nx I1 f3 f5 (0 : Int32)))) : v_Reader_readPower_112 I0 I1 I2 n3 f3 n4 f4 n5 f5 x1 x4 Z_1 → v_Reader_readPower_112 I0 I1 I2 n3 f3 n4 f4 n5 f5 x1 x4 Z_2 → v_Reader_readPower_112 I0 I1 I2 n3 f3 n4 f4 n5 f5 x1 x4 Z_3 := h
theorem y_Reader_readPower_71 {I0 : Nat → Int32} {I1 : Nat → Int32} {I2 : Nat → Int32} {n3 : Nat} {f3 : Nat → Int32} {n4 : Nat} {f4 : Nat → Int32} {n5 : Nat} {f5 : Nat → Int32} {x1 : Int32} {x3 : Int32} {x4 : Int32} {x5 : Int32} {s0 : Int32} {Z_1 Z_2 Z_3 : Int32 → (Nat → Int32) × (Nat → Int32) × (Nat → Int32) × (Nat → Int32) → Prop} (h : (((x5 = 0 → (Z_1 (0 : Int32) (I1, I2, f3, f5))) ∧ (¬ x5 = 0 → ((¬ s0 = 0 → (v_Code_add_0 I1 n3 f3 n5 f5 (7 : Int32) x3 (fun u => (v_Reader_readPower_112 I0 u.1 (zu (zu I2 0 (3 : Int32)) 9 x4) n3 u.2.1 n4 f4 n5 u.2.2 x1 x4  Z_1)))) ∧ (s0 = 0 → (Z_1 (0 : Int32) (I1, I2, f3, f5))))))) → (((x5 = 0 → (Z_2 (0 : Int32) (I1, I2, f3, f5))) ∧ (¬ x5 = 0 → ((¬ s0 = 0 → (v_Code_add_0 I1 n3 f3 n5 f5 (7 : Int32) x3 (fun u => (v_Reader_readPower_112 I0 u.1 (zu (zu I2 0 (3 : Int32)) 9 x4) n3 u.2.1 n4 f4 n5 u.2.2 x1 x4  Z_2)))) ∧ (s0 = 0 → (Z_2 (0 : Int32) (I1, I2, f3, f5))))))) → (((x5 = 0 → (Z_3 (0 : Int32) (I1, I2, f3, f5))) ∧ (¬ x5 = 0 → ((¬ s0 = 0 → (v_Code_add_0 I1 n3 f3 n5 f5 (7 : Int32) x3 (fun u => (v_Reader_readPower_112 I0 u.1 (zu (zu I2 0 (3 : Int32)) 9 x4) n3 u.2.1 n4 f4 n5 u.2.2 x1 x4  Z_3)))) ∧ (s0 = 0 → (Z_3 (0 : Int32) (I1, I2, f3, f5)))))))) : v_Reader_readPower_71 I0 I1 I2 n3 f3 n4 f4 n5 f5 x1 x3 x4 x5 s0 Z_1 → v_Reader_readPower_71 I0 I1 I2 n3 f3 n4 f4 n5 f5 x1 x3 x4 x5 s0 Z_2 → v_Reader_readPower_71 I0 I1 I2 n3 f3 n4 f4 n5 f5 x1 x3 x4 x5 s0 Z_3 := h
theorem y_Reader_readPower_70 {I0 : Nat → Int32} {I1 : Nat → Int32} {I2 : Nat → Int32} {n3 : Nat} {f3 : Nat → Int32} {n4 : Nat} {f4 : Nat → Int32} {n5 : Nat} {f5 : Nat → Int32} {x1 : Int32} {x3 : Int32} {x4 : Int32} {x5 : Int32} {Z_1 Z_2 Z_3 : Int32 → (Nat → Int32) × (Nat → Int32) × (Nat → Int32) × (Nat → Int32) → Prop} (h : ((v_Reader_readPower_71 I0 I1 I2 n3 f3 n4 f4 n5 f5 x1 x3 x4 x5 (0 : Int32)  Z_1)) → ((v_Reader_readPower_71 I0 I1 I2 n3 f3 n4 f4 n5 f5 x1 x3 x4 x5 (0 : Int32)  Z_2)) → ((v_Reader_readPower_71 I0 I1 I2 n3 f3 n4 f4 n5 f5 x1 x3 x4 x5 (0 : Int32)  Z_3))) : v_Reader_readPower_70 I0 I1 I2 n3 f3 n4 f4 n5 f5 x1 x3 x4 x5 Z_1 → v_Reader_readPower_70 I0 I1 I2 n3 f3 n4 f4 n5 f5 x1 x3 x4 x5 Z_2 → v_Reader_readPower_70 I0 I1 I2 n3 f3 n4 f4 n5 f5 x1 x3 x4 x5 Z_3 := h
theorem y_Reader_readPower_63 {I0 : Nat → Int32} {I1 : Nat → Int32} {I2 : Nat → Int32} {n3 : Nat} {f3 : Nat → Int32} {n4 : Nat} {f4 : Nat → Int32} {n5 : Nat} {f5 : Nat → Int32} {x1 : Int32} {x3 : Int32} {x4 : Int32} {x5 : Int32} {s0 : Int32} {Z_1 Z_2 Z_3 : Int32 → (Nat → Int32) × (Nat → Int32) × (Nat → Int32) × (Nat → Int32) → Prop} (h : (((¬ s0 = 0 → (v_Reader_readPower_70 I0 I1 I2 n3 f3 n4 f4 n5 f5 x1 x3 x4 x5  Z_1)) ∧ (s0 = 0 → (v_Reader_readPower_71 I0 I1 I2 n3 f3 n4 f4 n5 f5 x1 x3 x4 x5 (1 : Int32)  Z_1)))) → (((¬ s0 = 0 → (v_Reader_readPower_70 I0 I1 I2 n3 f3 n4 f4 n5 f5 x1 x3 x4 x5  Z_2)) ∧ (s0 = 0 → (v_Reader_readPower_71 I0 I1 I2 n3 f3 n4 f4 n5 f5 x1 x3 x4 x5 (1 : Int32)  Z_2)))) → (((¬ s0 = 0 → (v_Reader_readPower_70 I0 I1 I2 n3 f3 n4 f4 n5 f5 x1 x3 x4 x5  Z_3)) ∧ (s0 = 0 → (v_Reader_readPower_71 I0 I1 I2 n3 f3 n4 f4 n5 f5 x1 x3 x4 x5 (1 : Int32)  Z_3))))) : v_Reader_readPower_63 I0 I1 I2 n3 f3 n4 f4 n5 f5 x1 x3 x4 x5 s0 Z_1 → v_Reader_readPower_63 I0 I1 I2 n3 f3 n4 f4 n5 f5 x1 x3 x4 x5 s0 Z_2 → v_Reader_readPower_63 I0 I1 I2 n3 f3 n4 f4 n5 f5 x1 x3 x4 x5 s0 Z_3 := h
theorem y_Reader_readPower_56 {I0 : Nat → Int32} {I1 : Nat → Int32} {I2 : Nat → Int32} {n3 : Nat} {f3 : Nat → Int32} {n4 : Nat} {f4 : Nat → Int32} {n5 : Nat} {f5 : Nat → Int32} {x1 : Int32} {x3 : Int32} {x4 : Int32} {x5 : Int32} {Z_1 Z_2 Z_3 : Int32 → (Nat → Int32) × (Nat → Int32) × (Nat → Int32) × (Nat → Int32) → Prop} (h : ((v_Section_hasCommaOrPercent_0 I2 (fun r u => (v_Reader_readPower_63 I0 I1 I2 n3 f3 n4 f4 n5 f5 x1 x3 x4 x5 r  Z_1)))) → ((v_Section_hasCommaOrPercent_0 I2 (fun r u => (v_Reader_readPower_63 I0 I1 I2 n3 f3 n4 f4 n5 f5 x1 x3 x4 x5 r  Z_2)))) → ((v_Section_hasCommaOrPercent_0 I2 (fun r u => (v_Reader_readPower_63 I0 I1 I2 n3 f3 n4 f4 n5 f5 x1 x3 x4 x5 r  Z_3))))) : v_Reader_readPower_56 I0 I1 I2 n3 f3 n4 f4 n5 f5 x1 x3 x4 x5 Z_1 → v_Reader_readPower_56 I0 I1 I2 n3 f3 n4 f4 n5 f5 x1 x3 x4 x5 Z_2 → v_Reader_readPower_56 I0 I1 I2 n3 f3 n4 f4 n5 f5 x1 x3 x4 x5 Z_3 := h
theorem y_Reader_readPower_44 {I0 : Nat → Int32} {I1 : Nat → Int32} {I2 : Nat → Int32} {n3 : Nat} {f3 : Nat → Int32} {n4 : Nat} {f4 : Nat → Int32} {n5 : Nat} {f5 : Nat → Int32} {x1 : Int32} {x2 : Int32} {x3 : Int32} {x4 : Int32} {s0 : Int32} {Z_1 Z_2 Z_3 : Int32 → (Nat → Int32) × (Nat → Int32) × (Nat → Int32) × (Nat → Int32) → Prop} (h : (((x2 = (2 : Int32) → (v_Reader_readPower_56 I0 I1 I2 n3 f3 n4 f4 n5 f5 x1 x3 x4 s0  Z_1)) ∧ (¬ x2 = (2 : Int32) → ((¬ x2 = (3 : Int32) → (v_Reader_readPower_70 I0 I1 I2 n3 f3 n4 f4 n5 f5 x1 x3 x4 s0  Z_1)) ∧ (x2 = (3 : Int32) → (v_Reader_readPower_56 I0 I1 I2 n3 f3 n4 f4 n5 f5 x1 x3 x4 s0  Z_1)))))) → (((x2 = (2 : Int32) → (v_Reader_readPower_56 I0 I1 I2 n3 f3 n4 f4 n5 f5 x1 x3 x4 s0  Z_2)) ∧ (¬ x2 = (2 : Int32) → ((¬ x2 = (3 : Int32) → (v_Reader_readPower_70 I0 I1 I2 n3 f3 n4 f4 n5 f5 x1 x3 x4 s0  Z_2)) ∧ (x2 = (3 : Int32) → (v_Reader_readPower_56 I0 I1 I2 n3 f3 n4 f4 n5 f5 x1 x3 x4 s0  Z_2)))))) → (((x2 = (2 : Int32) → (v_Reader_readPower_56 I0 I1 I2 n3 f3 n4 f4 n5 f5 x1 x3 x4 s0  Z_3)) ∧ (¬ x2 = (2 : Int32) → ((¬ x2 = (3 : Int32) → (v_Reader_readPower_70 I0 I1 I2 n3 f3 n4 f4 n5 f5 x1 x3 x4 s0  Z_3)) ∧ (x2 = (3 : Int32) → (v_Reader_readPower_56 I0 I1 I2 n3 f3 n4 f4 n5 f5 x1 x3 x4 s0  Z_3))))))) : v_Reader_readPower_44 I0 I1 I2 n3 f3 n4 f4 n5 f5 x1 x2 x3 x4 s0 Z_1 → v_Reader_readPower_44 I0 I1 I2 n3 f3 n4 f4 n5 f5 x1 x2 x3 x4 s0 Z_2 → v_Reader_readPower_44 I0 I1 I2 n3 f3 n4 f4 n5 f5 x1 x2 x3 x4 s0 Z_3 := h
theorem y_Reader_readPower_43 {I0 : Nat → Int32} {I1 : Nat → Int32} {I2 : Nat → Int32} {n3 : Nat} {f3 : Nat → Int32} {n4 : Nat} {f4 : Nat → Int32} {n5 : Nat} {f5 : Nat → Int32} {x1 : Int32} {x2 : Int32} {x3 : Int32} {x4 : Int32} {Z_1 Z_2 Z_3 : Int32 → (Nat → Int32) × (Nat → Int32) × (Nat → Int32) × (Nat → Int32) → Prop} (h : ((v_Reader_readPower_44 I0 I1 I2 n3 f3 n4 f4 n5 f5 x1 x2 x3 x4 (0 : Int32)  Z_1)) → ((v_Reader_readPower_44 I0 I1 I2 n3 f3 n4 f4 n5 f5 x1 x2 x3 x4 (0 : Int32)  Z_2)) → ((v_Reader_readPower_44 I0 I1 I2 n3 f3 n4 f4 n5 f5 x1 x2 x3 x4 (0 : Int32)  Z_3))) : v_Reader_readPower_43 I0 I1 I2 n3 f3 n4 f4 n5 f5 x1 x2 x3 x4 Z_1 → v_Reader_readPower_43 I0 I1 I2 n3 f3 n4 f4 n5 f5 x1 x2 x3 x4 Z_2 → v_Reader_readPower_43 I0 I1 I2 n3 f3 n4 f4 n5 f5 x1 x2 x3 x4 Z_3 := h
theorem y_Reader_readPower_34 {I0 : Nat → Int32} {I1 : Nat → Int32} {I2 : Nat → Int32} {n3 : Nat} {f3 : Nat → Int32} {n4 : Nat} {f4 : Nat → Int32} {n5 : Nat} {f5 : Nat → Int32} {x1 : Int32} {x2 : Int32} {x3 : Int32} {x4 : Int32} {Z_1 Z_2 Z_3 : Int32 → (Nat → Int32) × (Nat → Int32) × (Nat → Int32) × (Nat → Int32) → Prop} (h : (((x4 ≤ 0 → (v_Reader_readPower_43 I0 I1 I2 n3 f3 n4 f4 n5 f5 x1 x2 x3 x4  Z_1)) ∧ (¬ x4 ≤ 0 → (v_Reader_readPower_44 I0 I1 I2 n3 f3 n4 f4 n5 f5 x1 x2 x3 x4 (1 : Int32)  Z_1)))) → (((x4 ≤ 0 → (v_Reader_readPower_43 I0 I1 I2 n3 f3 n4 f4 n5 f5 x1 x2 x3 x4  Z_2)) ∧ (¬ x4 ≤ 0 → (v_Reader_readPower_44 I0 I1 I2 n3 f3 n4 f4 n5 f5 x1 x2 x3 x4 (1 : Int32)  Z_2)))) → (((x4 ≤ 0 → (v_Reader_readPower_43 I0 I1 I2 n3 f3 n4 f4 n5 f5 x1 x2 x3 x4  Z_3)) ∧ (¬ x4 ≤ 0 → (v_Reader_readPower_44 I0 I1 I2 n3 f3 n4 f4 n5 f5 x1 x2 x3 x4 (1 : Int32)  Z_3))))) : v_Reader_readPower_34 I0 I1 I2 n3 f3 n4 f4 n5 f5 x1 x2 x3 x4 Z_1 → v_Reader_readPower_34 I0 I1 I2 n3 f3 n4 f4 n5 f5 x1 x2 x3 x4 Z_2 → v_Reader_readPower_34 I0 I1 I2 n3 f3 n4 f4 n5 f5 x1 x2 x3 x4 Z_3 := h
theorem y_Reader_readPower_20 {I0 : Nat → Int32} {I1 : Nat → Int32} {I2 : Nat → Int32} {n3 : Nat} {f3 : Nat → Int32} {n4 : Nat} {f4 : Nat → Int32} {n5 : Nat} {f5 : Nat → Int32} {x1 : Int32} {x2 : Int32} {x3 : Int32} {s0 : Int32} {Z_1 Z_2 Z_3 : Int32 → (Nat → Int32) × (Nat → Int32) × (Nat → Int32) × (Nat → Int32) → Prop} (h : (((x3 = (43 : Int32) → (v_Reader_readPower_34 I0 I1 I2 n3 f3 n4 f4 n5 f5 x1 x2 x3 s0  Z_1)) ∧ (¬ x3 = (43 : Int32) → ((¬ x3 = (45 : Int32) → (v_Reader_readPower_43 I0 I1 I2 n3 f3 n4 f4 n5 f5 x1 x2 x3 s0  Z_1)) ∧ (x3 = (45 : Int32) → (v_Reader_readPower_34 I0 I1 I2 n3 f3 n4 f4 n5 f5 x1 x2 x3 s0  Z_1)))))) → (((x3 = (43 : Int32) → (v_Reader_readPower_34 I0 I1 I2 n3 f3 n4 f4 n5 f5 x1 x2 x3 s0  Z_2)) ∧ (¬ x3 = (43 : Int32) → ((¬ x3 = (45 : Int32) → (v_Reader_readPower_43 I0 I1 I2 n3 f3 n4 f4 n5 f5 x1 x2 x3 s0  Z_2)) ∧ (x3 = (45 : Int32) → (v_Reader_readPower_34 I0 I1 I2 n3 f3 n4 f4 n5 f5 x1 x2 x3 s0  Z_2)))))) → (((x3 = (43 : Int32) → (v_Reader_readPower_34 I0 I1 I2 n3 f3 n4 f4 n5 f5 x1 x2 x3 s0  Z_3)) ∧ (¬ x3 = (43 : Int32) → ((¬ x3 = (45 : Int32) → (v_Reader_readPower_43 I0 I1 I2 n3 f3 n4 f4 n5 f5 x1 x2 x3 s0  Z_3)) ∧ (x3 = (45 : Int32) → (v_Reader_readPower_34 I0 I1 I2 n3 f3 n4 f4 n5 f5 x1 x2 x3 s0  Z_3))))))) : v_Reader_readPower_20 I0 I1 I2 n3 f3 n4 f4 n5 f5 x1 x2 x3 s0 Z_1 → v_Reader_readPower_20 I0 I1 I2 n3 f3 n4 f4 n5 f5 x1 x2 x3 s0 Z_2 → v_Reader_readPower_20 I0 I1 I2 n3 f3 n4 f4 n5 f5 x1 x2 x3 s0 Z_3 := h
theorem y_Reader_readPower_12 {I0 : Nat → Int32} {I1 : Nat → Int32} {I2 : Nat → Int32} {n3 : Nat} {f3 : Nat → Int32} {n4 : Nat} {f4 : Nat → Int32} {n5 : Nat} {f5 : Nat → Int32} {x1 : Int32} {x2 : Int32} {s0 : Int32} {Z_1 Z_2 Z_3 : Int32 → (Nat → Int32) × (Nat → Int32) × (Nat → Int32) × (Nat → Int32) → Prop} (h : ((v_Reader_placesFrom_0 I0 n4 f4 (x1 + (2 : Int32)) (fun r u => (v_Reader_readPower_20 I0 I1 I2 n3 f3 n4 f4 n5 f5 x1 x2 s0 r  Z_1)))) → ((v_Reader_placesFrom_0 I0 n4 f4 (x1 + (2 : Int32)) (fun r u => (v_Reader_readPower_20 I0 I1 I2 n3 f3 n4 f4 n5 f5 x1 x2 s0 r  Z_2)))) → ((v_Reader_placesFrom_0 I0 n4 f4 (x1 + (2 : Int32)) (fun r u => (v_Reader_readPower_20 I0 I1 I2 n3 f3 n4 f4 n5 f5 x1 x2 s0 r  Z_3))))) : v_Reader_readPower_12 I0 I1 I2 n3 f3 n4 f4 n5 f5 x1 x2 s0 Z_1 → v_Reader_readPower_12 I0 I1 I2 n3 f3 n4 f4 n5 f5 x1 x2 s0 Z_2 → v_Reader_readPower_12 I0 I1 I2 n3 f3 n4 f4 n5 f5 x1 x2 s0 Z_3 := h
theorem y_Reader_readPower_4 {I0 : Nat → Int32} {I1 : Nat → Int32} {I2 : Nat → Int32} {n3 : Nat} {f3 : Nat → Int32} {n4 : Nat} {f4 : Nat → Int32} {n5 : Nat} {f5 : Nat → Int32} {x1 : Int32} {s0 : Int32} {Z_1 Z_2 Z_3 : Int32 → (Nat → Int32) × (Nat → Int32) × (Nat → Int32) × (Nat → Int32) → Prop} (h : ((v_Reader_sign_0 I0 n4 f4 (x1 + (1 : Int32)) (fun r u => (v_Reader_readPower_12 I0 I1 I2 n3 f3 n4 f4 n5 f5 x1 s0 r  Z_1)))) → ((v_Reader_sign_0 I0 n4 f4 (x1 + (1 : Int32)) (fun r u => (v_Reader_readPower_12 I0 I1 I2 n3 f3 n4 f4 n5 f5 x1 s0 r  Z_2)))) → ((v_Reader_sign_0 I0 n4 f4 (x1 + (1 : Int32)) (fun r u => (v_Reader_readPower_12 I0 I1 I2 n3 f3 n4 f4 n5 f5 x1 s0 r  Z_3))))) : v_Reader_readPower_4 I0 I1 I2 n3 f3 n4 f4 n5 f5 x1 s0 Z_1 → v_Reader_readPower_4 I0 I1 I2 n3 f3 n4 f4 n5 f5 x1 s0 Z_2 → v_Reader_readPower_4 I0 I1 I2 n3 f3 n4 f4 n5 f5 x1 s0 Z_3 := h
theorem y_Reader_readPower_0 {I0 : Nat → Int32} {I1 : Nat → Int32} {I2 : Nat → Int32} {n3 : Nat} {f3 : Nat → Int32} {n4 : Nat} {f4 : Nat → Int32} {n5 : Nat} {f5 : Nat → Int32} {x1 : Int32} {Z_1 Z_2 Z_3 : Int32 → (Nat → Int32) × (Nat → Int32) × (Nat → Int32) × (Nat → Int32) → Prop} (h : ((v_Reader_kindBefore_0 I0 I1 I2 n3 f3 (fun r u => (v_Reader_readPower_4 I0 I1 I2 n3 f3 n4 f4 n5 f5 x1 r  Z_1)))) → ((v_Reader_kindBefore_0 I0 I1 I2 n3 f3 (fun r u => (v_Reader_readPower_4 I0 I1 I2 n3 f3 n4 f4 n5 f5 x1 r  Z_2)))) → ((v_Reader_kindBefore_0 I0 I1 I2 n3 f3 (fun r u => (v_Reader_readPower_4 I0 I1 I2 n3 f3 n4 f4 n5 f5 x1 r  Z_3))))) : v_Reader_readPower_0 I0 I1 I2 n3 f3 n4 f4 n5 f5 x1 Z_1 → v_Reader_readPower_0 I0 I1 I2 n3 f3 n4 f4 n5 f5 x1 Z_2 → v_Reader_readPower_0 I0 I1 I2 n3 f3 n4 f4 n5 f5 x1 Z_3 := h
theorem y_Reader_readNumberItem_116 {I0 : Nat → Int32} {n1 : Nat} {f1 : Nat → Int32} {I2 : Nat → Int32} {I3 : Nat → Int32} {n4 : Nat} {f4 : Nat → Int32} {n5 : Nat} {f5 : Nat → Int32} {s0 : Int32} {Z_1 Z_2 Z_3 : Int32 → (Nat → Int32) × (Nat → Int32) × (Nat → Int32) × (Nat → Int32) → Prop} (h : ((Z_1 s0 (I2, I3, f4, f5))) → ((Z_2 s0 (I2, I3, f4, f5))) → ((Z_3 s0 (I2, I3, f4, f5)))) : v_Reader_readNumberItem_116 I0 n1 f1 I2 I3 n4 f4 n5 f5 s0 Z_1 → v_Reader_readNumberItem_116 I0 n1 f1 I2 I3 n4 f4 n5 f5 s0 Z_2 → v_Reader_readNumberItem_116 I0 n1 f1 I2 I3 n4 f4 n5 f5 s0 Z_3 := h
theorem y_Reader_readNumberItem_122 {I0 : Nat → Int32} {n1 : Nat} {f1 : Nat → Int32} {I2 : Nat → Int32} {I3 : Nat → Int32} {n4 : Nat} {f4 : Nat → Int32} {n5 : Nat} {f5 : Nat → Int32} {s0 : Int32} {Z_1 Z_2 Z_3 : Int32 → (Nat → Int32) × (Nat → Int32) × (Nat → Int32) × (Nat → Int32) → Prop} (h : ((Z_1 s0 (I2, I3, f4, f5))) → ((Z_2 s0 (I2, I3, f4, f5))) → ((Z_3 s0 (I2, I3, f4, f5)))) : v_Reader_readNumberItem_122 I0 n1 f1 I2 I3 n4 f4 n5 f5 s0 Z_1 → v_Reader_readNumberItem_122 I0 n1 f1 I2 I3 n4 f4 n5 f5 s0 Z_2 → v_Reader_readNumberItem_122 I0 n1 f1 I2 I3 n4 f4 n5 f5 s0 Z_3 := h
theorem y_Reader_readNumberItem_128 {I0 : Nat → Int32} {n1 : Nat} {f1 : Nat → Int32} {I2 : Nat → Int32} {I3 : Nat → Int32} {n4 : Nat} {f4 : Nat → Int32} {n5 : Nat} {f5 : Nat → Int32} {s0 : Int32} {Z_1 Z_2 Z_3 : Int32 → (Nat → Int32) × (Nat → Int32) × (Nat → Int32) × (Nat → Int32) → Prop} (h : ((Z_1 s0 (I2, I3, f4, f5))) → ((Z_2 s0 (I2, I3, f4, f5))) → ((Z_3 s0 (I2, I3, f4, f5)))) : v_Reader_readNumberItem_128 I0 n1 f1 I2 I3 n4 f4 n5 f5 s0 Z_1 → v_Reader_readNumberItem_128 I0 n1 f1 I2 I3 n4 f4 n5 f5 s0 Z_2 → v_Reader_readNumberItem_128 I0 n1 f1 I2 I3 n4 f4 n5 f5 s0 Z_3 := h
theorem y_Reader_readNumberItem_85 {I0 : Nat → Int32} {n1 : Nat} {f1 : Nat → Int32} {I2 : Nat → Int32} {I3 : Nat → Int32} {n4 : Nat} {f4 : Nat → Int32} {n5 : Nat} {f5 : Nat → Int32} {s0 : Int32} {Z_1 Z_2 Z_3 : Int32 → (Nat → Int32) × (Nat → Int32) × (Nat → Int32) × (Nat → Int32) → Prop} (h : ((Z_1 s0 (I2, I3, f4, f5))) → ((Z_2 s0 (I2, I3, f4, f5))) → ((Z_3 s0 (I2, I3, f4, f5)))) : v_Reader_readNumberItem_85 I0 n1 f1 I2 I3 n4 f4 n5 f5 s0 Z_1 → v_Reader_readNumberItem_85 I0 n1 f1 I2 I3 n4 f4 n5 f5 s0 Z_2 → v_Reader_readNumberItem_85 I0 n1 f1 I2 I3 n4 f4 n5 f5 s0 Z_3 := h
theorem y_Reader_readNumberItem_90 {I0 : Nat → Int32} {n1 : Nat} {f1 : Nat → Int32} {I2 : Nat → Int32} {I3 : Nat → Int32} {n4 : Nat} {f4 : Nat → Int32} {n5 : Nat} {f5 : Nat → Int32} {s0 : Int32} {Z_1 Z_2 Z_3 : Int32 → (Nat → Int32) × (Nat → Int32) × (Nat → Int32) × (Nat → Int32) → Prop} (h : ((Z_1 s0 (I2, I3, f4, f5))) → ((Z_2 s0 (I2, I3, f4, f5))) → ((Z_3 s0 (I2, I3, f4, f5)))) : v_Reader_readNumberItem_90 I0 n1 f1 I2 I3 n4 f4 n5 f5 s0 Z_1 → v_Reader_readNumberItem_90 I0 n1 f1 I2 I3 n4 f4 n5 f5 s0 Z_2 → v_Reader_readNumberItem_90 I0 n1 f1 I2 I3 n4 f4 n5 f5 s0 Z_3 := h
theorem y_Reader_readNumberItem_96 {I0 : Nat → Int32} {n1 : Nat} {f1 : Nat → Int32} {I2 : Nat → Int32} {I3 : Nat → Int32} {n4 : Nat} {f4 : Nat → Int32} {n5 : Nat} {f5 : Nat → Int32} {s0 : Int32} {Z_1 Z_2 Z_3 : Int32 → (Nat → Int32) × (Nat → Int32) × (Nat → Int32) × (Nat → Int32) → Prop} (h : ((Z_1 s0 (I2, I3, f4, f5))) → ((Z_2 s0 (I2, I3, f4, f5))) → ((Z_3 s0 (I2, I3, f4, f5)))) : v_Reader_readNumberItem_96 I0 n1 f1 I2 I3 n4 f4 n5 f5 s0 Z_1 → v_Reader_readNumberItem_96 I0 n1 f1 I2 I3 n4 f4 n5 f5 s0 Z_2 → v_Reader_readNumberItem_96 I0 n1 f1 I2 I3 n4 f4 n5 f5 s0 Z_3 := h
theorem y_Reader_readNumberItem_5 {I0 : Nat → Int32} {n1 : Nat} {f1 : Nat → Int32} {I2 : Nat → Int32} {I3 : Nat → Int32} {n4 : Nat} {f4 : Nat → Int32} {n5 : Nat} {f5 : Nat → Int32} {x1 : Int32} {s0 : Int32} {Z_1 Z_2 Z_3 : Int32 → (Nat → Int32) × (Nat → Int32) × (Nat → Int32) × (Nat → Int32) → Prop} (h : (((s0 = (35 : Int32) → (v_Reader_readPlace_0 I0 I2 I3 n4 f4 n5 f5 s0 (fun r u => (v_Reader_readNumberItem_85 I0 n1 f1 u.1 u.2.1 n4 u.2.2.1 n5 u.2.2.2 r  Z_1)))) ∧ (¬ s0 = (35 : Int32) → ((s0 = (37 : Int32) → (v_Reader_addOne_0 I0 I3 n4 f4 n5 f5 (1 : Int32) s0 (fun r u => (v_Reader_readNumberItem_116 I0 n1 f1 (zu I2 8 ((I2 8) + (1 : Int32))) u.1 n4 u.2.1 n5 u.2.2 r  Z_1)))) ∧ (¬ s0 = (37 : Int32) → ((s0 = (44 : Int32) → (v_Reader_readComma_0 I0 I3 I2 n4 f4 n1 f1 n5 f5 x1 (fun r u => (v_Reader_readNumberItem_96 I0 n1 f1 u.2.1 u.1 n4 u.2.2.1 n5 u.2.2.2 r  Z_1)))) ∧ (¬ s0 = (44 : Int32) → ((s0 = (46 : Int32) → (v_Reader_readPoint_0 I0 I2 I3 n4 f4 n5 f5 (fun r u => (v_Reader_readNumberItem_90 I0 n1 f1 u.1 u.2.1 n4 u.2.2.1 n5 u.2.2.2 r  Z_1)))) ∧ (¬ s0 = (46 : Int32) → ((s0 = (47 : Int32) → (v_Reader_readFraction_0 I0 n1 f1 I3 I2 n4 f4 n5 f5 x1 (fun r u => (v_Reader_readNumberItem_128 I0 n1 f1 u.2.1 u.1 n4 u.2.2.1 n5 u.2.2.2 r  Z_1)))) ∧ (¬ s0 = (47 : Int32) → ((s0 = (48 : Int32) → (v_Reader_readPlace_0 I0 I2 I3 n4 f4 n5 f5 s0 (fun r u => (v_Reader_readNumberItem_85 I0 n1 f1 u.1 u.2.1 n4 u.2.2.1 n5 u.2.2.2 r  Z_1)))) ∧ (¬ s0 = (48 : Int32) → ((s0 = (63 : Int32) → (v_Reader_readPlace_0 I0 I2 I3 n4 f4 n5 f5 s0 (fun r u => (v_Reader_readNumberItem_85 I0 n1 f1 u.1 u.2.1 n4 u.2.2.1 n5 u.2.2.2 r  Z_1)))) ∧ (¬ s0 = (63 : Int32) → ((s0 = (101 : Int32) → (v_Reader_readPower_0 I0 I3 I2 n4 f4 n1 f1 n5 f5 x1 (fun r u => (v_Reader_readNumberItem_122 I0 n1 f1 u.2.1 u.1 n4 u.2.2.1 n5 u.2.2.2 r  Z_1)))) ∧ (¬ s0 = (101 : Int32) → (Z_1 (0 : Int32) (I2, I3, f4, f5))))))))))))))))))) → (((s0 = (35 : Int32) → (v_Reader_readPlace_0 I0 I2 I3 n4 f4 n5 f5 s0 (fun r u => (v_Reader_readNumberItem_85 I0 n1 f1 u.1 u.2.1 n4 u.2.2.1 n5 u.2.2.2 r  Z_2)))) ∧ (¬ s0 = (35 : Int32) → ((s0 = (37 : Int32) → (v_Reader_addOne_0 I0 I3 n4 f4 n5 f5 (1 : Int32) s0 (fun r u => (v_Reader_readNumberItem_116 I0 n1 f1 (zu I2 8 ((I2 8) + (1 : Int32))) u.1 n4 u.2.1 n5 u.2.2 r  Z_2)))) ∧ (¬ s0 = (37 : Int32) → ((s0 = (44 : Int32) → (v_Reader_readComma_0 I0 I3 I2 n4 f4 n1 f1 n5 f5 x1 (fun r u => (v_Reader_readNumberItem_96 I0 n1 f1 u.2.1 u.1 n4 u.2.2.1 n5 u.2.2.2 r  Z_2)))) ∧ (¬ s0 = (44 : Int32) → ((s0 = (46 : Int32) → (v_Reader_readPoint_0 I0 I2 I3 n4 f4 n5 f5 (fun r u => (v_Reader_readNumberItem_90 I0 n1 f1 u.1 u.2.1 n4 u.2.2.1 n5 u.2.2.2 r  Z_2)))) ∧ (¬ s0 = (46 : Int32) → ((s0 = (47 : Int32) → (v_Reader_readFraction_0 I0 n1 f1 I3 I2 n4 f4 n5 f5 x1 (fun r u => (v_Reader_readNumberItem_128 I0 n1 f1 u.2.1 u.1 n4 u.2.2.1 n5 u.2.2.2 r  Z_2)))) ∧ (¬ s0 = (47 : Int32) → ((s0 = (48 : Int32) → (v_Reader_readPlace_0 I0 I2 I3 n4 f4 n5 f5 s0 (fun r u => (v_Reader_readNumberItem_85 I0 n1 f1 u.1 u.2.1 n4 u.2.2.1 n5 u.2.2.2 r  Z_2)))) ∧ (¬ s0 = (48 : Int32) → ((s0 = (63 : Int32) → (v_Reader_readPlace_0 I0 I2 I3 n4 f4 n5 f5 s0 (fun r u => (v_Reader_readNumberItem_85 I0 n1 f1 u.1 u.2.1 n4 u.2.2.1 n5 u.2.2.2 r  Z_2)))) ∧ (¬ s0 = (63 : Int32) → ((s0 = (101 : Int32) → (v_Reader_readPower_0 I0 I3 I2 n4 f4 n1 f1 n5 f5 x1 (fun r u => (v_Reader_readNumberItem_122 I0 n1 f1 u.2.1 u.1 n4 u.2.2.1 n5 u.2.2.2 r  Z_2)))) ∧ (¬ s0 = (101 : Int32) → (Z_2 (0 : Int32) (I2, I3, f4, f5))))))))))))))))))) → (((s0 = (35 : Int32) → (v_Reader_readPlace_0 I0 I2 I3 n4 f4 n5 f5 s0 (fun r u => (v_Reader_readNumberItem_85 I0 n1 f1 u.1 u.2.1 n4 u.2.2.1 n5 u.2.2.2 r  Z_3)))) ∧ (¬ s0 = (35 : Int32) → ((s0 = (37 : Int32) → (v_Reader_addOne_0 I0 I3 n4 f4 n5 f5 (1 : Int32) s0 (fun r u => (v_Reader_readNumberItem_116 I0 n1 f1 (zu I2 8 ((I2 8) + (1 : Int32))) u.1 n4 u.2.1 n5 u.2.2 r  Z_3)))) ∧ (¬ s0 = (37 : Int32) → ((s0 = (44 : Int32) → (v_Reader_readComma_0 I0 I3 I2 n4 f4 n1 f1 n5 f5 x1 (fun r u => (v_Reader_readNumberItem_96 I0 n1 f1 u.2.1 u.1 n4 u.2.2.1 n5 u.2.2.2 r  Z_3)))) ∧ (¬ s0 = (44 : Int32) → ((s0 = (46 : Int32) → (v_Reader_readPoint_0 I0 I2 I3 n4 f4 n5 f5 (fun r u => (v_Reader_readNumberItem_90 I0 n1 f1 u.1 u.2.1 n4 u.2.2.1 n5 u.2.2.2 r  Z_3)))) ∧ (¬ s0 = (46 : Int32) → ((s0 = (47 : Int32) → (v_Reader_readFraction_0 I0 n1 f1 I3 I2 n4 f4 n5 f5 x1 (fun r u => (v_Reader_readNumberItem_128 I0 n1 f1 u.2.1 u.1 n4 u.2.2.1 n5 u.2.2.2 r  Z_3)))) ∧ (¬ s0 = (47 : Int32) → ((s0 = (48 : Int32) → (v_Reader_readPlace_0 I0 I2 I3 n4 f4 n5 f5 s0 (fun r u => (v_Reader_readNumberItem_85 I0 n1 f1 u.1 u.2.1 n4 u.2.2.1 n5 u.2.2.2 r  Z_3)))) ∧ (¬ s0 = (48 : Int32) → ((s0 = (63 : Int32) → (v_Reader_readPlace_0 I0 I2 I3 n4 f4 n5 f5 s0 (fun r u => (v_Reader_readNumberItem_85 I0 n1 f1 u.1 u.2.1 n4 u.2.2.1 n5 u.2.2.2 r  Z_3)))) ∧ (¬ s0 = (63 : Int32) → ((s0 = (101 : Int32) → (v_Reader_readPower_0 I0 I3 I2 n4 f4 n1 f1 n5 f5 x1 (fun r u => (v_Reader_readNumberItem_122 I0 n1 f1 u.2.1 u.1 n4 u.2.2.1 n5 u.2.2.2 r  Z_3)))) ∧ (¬ s0 = (101 : Int32) → (Z_3 (0 : Int32) (I2, I3, f4, f5)))))))))))))))))))) : v_Reader_readNumberItem_5 I0 n1 f1 I2 I3 n4 f4 n5 f5 x1 s0 Z_1 → v_Reader_readNumberItem_5 I0 n1 f1 I2 I3 n4 f4 n5 f5 x1 s0 Z_2 → v_Reader_readNumberItem_5 I0 n1 f1 I2 I3 n4 f4 n5 f5 x1 s0 Z_3 := h
theorem y_Reader_readNumberItem_0 {I0 : Nat → Int32} {n1 : Nat} {f1 : Nat → Int32} {I2 : Nat → Int32} {I3 : Nat → Int32} {n4 : Nat} {f4 : Nat → Int32} {n5 : Nat} {f5 : Nat → Int32} {x1 : Int32} {Z_1 Z_2 Z_3 : Int32 → (Nat → Int32) × (Nat → Int32) × (Nat → Int32) × (Nat → Int32) → Prop} (h : ((v_Reader_small_0 I0 n1 f1 x1 (fun r u => (v_Reader_readNumberItem_5 I0 n1 f1 I2 I3 n4 f4 n5 f5 x1 r  Z_1)))) → ((v_Reader_small_0 I0 n1 f1 x1 (fun r u => (v_Reader_readNumberItem_5 I0 n1 f1 I2 I3 n4 f4 n5 f5 x1 r  Z_2)))) → ((v_Reader_small_0 I0 n1 f1 x1 (fun r u => (v_Reader_readNumberItem_5 I0 n1 f1 I2 I3 n4 f4 n5 f5 x1 r  Z_3))))) : v_Reader_readNumberItem_0 I0 n1 f1 I2 I3 n4 f4 n5 f5 x1 Z_1 → v_Reader_readNumberItem_0 I0 n1 f1 I2 I3 n4 f4 n5 f5 x1 Z_2 → v_Reader_readNumberItem_0 I0 n1 f1 I2 I3 n4 f4 n5 f5 x1 Z_3 := h
theorem y_Reader_readItem_108 {I0 : Nat → Int32} {n1 : Nat} {f1 : Nat → Int32} {I2 : Nat → Int32} {I3 : Nat → Int32} {n4 : Nat} {f4 : Nat → Int32} {n5 : Nat} {f5 : Nat → Int32} {s0 : Int32} {Z_1 Z_2 Z_3 : Int32 → (Nat → Int32) × (Nat → Int32) × (Nat → Int32) × (Nat → Int32) → Prop} (h : ((Z_1 s0 (I2, I3, f4, f5))) → ((Z_2 s0 (I2, I3, f4, f5))) → ((Z_3 s0 (I2, I3, f4, f5)))) : v_Reader_readItem_108 I0 n1 f1 I2 I3 n4 f4 n5 f5 s0 Z_1 → v_Reader_readItem_108 I0 n1 f1 I2 I3 n4 f4 n5 f5 s0 Z_2 → v_Reader_readItem_108 I0 n1 f1 I2 I3 n4 f4 n5 f5 s0 Z_3 := h
theorem y_Reader_readItem_16 {I0 : Nat → Int32} {n1 : Nat} {f1 : Nat → Int32} {I2 : Nat → Int32} {I3 : Nat → Int32} {n4 : Nat} {f4 : Nat → Int32} {n5 : Nat} {f5 : Nat → Int32} {x2 : Int32} {Z_1 Z_2 Z_3 : Int32 → (Nat → Int32) × (Nat → Int32) × (Nat → Int32) × (Nat → Int32) → Prop} (h : ((Z_1 x2 (I2, I3, f4, f5))) → ((Z_2 x2 (I2, I3, f4, f5))) → ((Z_3 x2 (I2, I3, f4, f5)))) : v_Reader_readItem_16 I0 n1 f1 I2 I3 n4 f4 n5 f5 x2 Z_1 → v_Reader_readItem_16 I0 n1 f1 I2 I3 n4 f4 n5 f5 x2 Z_2 → v_Reader_readItem_16 I0 n1 f1 I2 I3 n4 f4 n5 f5 x2 Z_3 := h
theorem y_Reader_readItem_69 {I0 : Nat → Int32} {n1 : Nat} {f1 : Nat → Int32} {I2 : Nat → Int32} {I3 : Nat → Int32} {n4 : Nat} {f4 : Nat → Int32} {n5 : Nat} {f5 : Nat → Int32} {s0 : Int32} {Z_1 Z_2 Z_3 : Int32 → (Nat → Int32) × (Nat → Int32) × (Nat → Int32) × (Nat → Int32) → Prop} (h : ((Z_1 s0 (I2, I3, f4, f5))) → ((Z_2 s0 (I2, I3, f4, f5))) → ((Z_3 s0 (I2, I3, f4, f5)))) : v_Reader_readItem_69 I0 n1 f1 I2 I3 n4 f4 n5 f5 s0 Z_1 → v_Reader_readItem_69 I0 n1 f1 I2 I3 n4 f4 n5 f5 s0 Z_2 → v_Reader_readItem_69 I0 n1 f1 I2 I3 n4 f4 n5 f5 s0 Z_3 := h
theorem y_Reader_readItem_75 {I0 : Nat → Int32} {n1 : Nat} {f1 : Nat → Int32} {I2 : Nat → Int32} {I3 : Nat → Int32} {n4 : Nat} {f4 : Nat → Int32} {n5 : Nat} {f5 : Nat → Int32} {s0 : Int32} {Z_1 Z_2 Z_3 : Int32 → (Nat → Int32) × (Nat → Int32) × (Nat → Int32) × (Nat → Int32) → Prop} (h : ((Z_1 s0 (I2, I3, f4, f5))) → ((Z_2 s0 (I2, I3, f4, f5))) → ((Z_3 s0 (I2, I3, f4, f5)))) : v_Reader_readItem_75 I0 n1 f1 I2 I3 n4 f4 n5 f5 s0 Z_1 → v_Reader_readItem_75 I0 n1 f1 I2 I3 n4 f4 n5 f5 s0 Z_2 → v_Reader_readItem_75 I0 n1 f1 I2 I3 n4 f4 n5 f5 s0 Z_3 := h
theorem y_Reader_readItem_102 {I0 : Nat → Int32} {n1 : Nat} {f1 : Nat → Int32} {I2 : Nat → Int32} {I3 : Nat → Int32} {n4 : Nat} {f4 : Nat → Int32} {n5 : Nat} {f5 : Nat → Int32} {s0 : Int32} {Z_1 Z_2 Z_3 : Int32 → (Nat → Int32) × (Nat → Int32) × (Nat → Int32) × (Nat → Int32) → Prop} (h : ((Z_1 s0 (I2, I3, f4, f5))) → ((Z_2 s0 (I2, I3, f4, f5))) → ((Z_3 s0 (I2, I3, f4, f5)))) : v_Reader_readItem_102 I0 n1 f1 I2 I3 n4 f4 n5 f5 s0 Z_1 → v_Reader_readItem_102 I0 n1 f1 I2 I3 n4 f4 n5 f5 s0 Z_2 → v_Reader_readItem_102 I0 n1 f1 I2 I3 n4 f4 n5 f5 s0 Z_3 := h
theorem y_Reader_readItem_94 {I0 : Nat → Int32} {n1 : Nat} {f1 : Nat → Int32} {I2 : Nat → Int32} {I3 : Nat → Int32} {n4 : Nat} {f4 : Nat → Int32} {n5 : Nat} {f5 : Nat → Int32} {s0 : Int32} {Z_1 Z_2 Z_3 : Int32 → (Nat → Int32) × (Nat → Int32) × (Nat → Int32) × (Nat → Int32) → Prop} (h : ((v_Reader_readItem_102 I0 n1 f1 I2 I3 n4 f4 n5 f5 s0  Z_1)) → ((v_Reader_readItem_102 I0 n1 f1 I2 I3 n4 f4 n5 f5 s0  Z_2)) → ((v_Reader_readItem_102 I0 n1 f1 I2 I3 n4 f4 n5 f5 s0  Z_3))) : v_Reader_readItem_94 I0 n1 f1 I2 I3 n4 f4 n5 f5 s0 Z_1 → v_Reader_readItem_94 I0 n1 f1 I2 I3 n4 f4 n5 f5 s0 Z_2 → v_Reader_readItem_94 I0 n1 f1 I2 I3 n4 f4 n5 f5 s0 Z_3 := h
theorem y_Reader_readItem_81 {I0 : Nat → Int32} {n1 : Nat} {f1 : Nat → Int32} {I2 : Nat → Int32} {I3 : Nat → Int32} {n4 : Nat} {f4 : Nat → Int32} {n5 : Nat} {f5 : Nat → Int32} {x1 : Int32} {s0 : Int32} {Z_1 Z_2 Z_3 : Int32 → (Nat → Int32) × (Nat → Int32) × (Nat → Int32) × (Nat → Int32) → Prop} (h : (((¬ s0 = (64 : Int32) → (v_Reader_readSign_0 I0 n1 f1 I3 n4 f4 n5 f5 x1 (fun r u => (v_Reader_readItem_102 I0 n1 f1 I2 u.1 n4 u.2.1 n5 u.2.2 r  Z_1)))) ∧ (s0 = (64 : Int32) → (v_Reader_addOne_0 I0 I3 n4 f4 n5 f5 (13 : Int32) (64 : Int32) (fun r u => (v_Reader_readItem_94 I0 n1 f1 I2 u.1 n4 u.2.1 n5 u.2.2 r  Z_1)))))) → (((¬ s0 = (64 : Int32) → (v_Reader_readSign_0 I0 n1 f1 I3 n4 f4 n5 f5 x1 (fun r u => (v_Reader_readItem_102 I0 n1 f1 I2 u.1 n4 u.2.1 n5 u.2.2 r  Z_2)))) ∧ (s0 = (64 : Int32) → (v_Reader_addOne_0 I0 I3 n4 f4 n5 f5 (13 : Int32) (64 : Int32) (fun r u => (v_Reader_readItem_94 I0 n1 f1 I2 u.1 n4 u.2.1 n5 u.2.2 r  Z_2)))))) → (((¬ s0 = (64 : Int32) → (v_Reader_readSign_0 I0 n1 f1 I3 n4 f4 n5 f5 x1 (fun r u => (v_Reader_readItem_102 I0 n1 f1 I2 u.1 n4 u.2.1 n5 u.2.2 r  Z_3)))) ∧ (s0 = (64 : Int32) → (v_Reader_addOne_0 I0 I3 n4 f4 n5 f5 (13 : Int32) (64 : Int32) (fun r u => (v_Reader_readItem_94 I0 n1 f1 I2 u.1 n4 u.2.1 n5 u.2.2 r  Z_3))))))) : v_Reader_readItem_81 I0 n1 f1 I2 I3 n4 f4 n5 f5 x1 s0 Z_1 → v_Reader_readItem_81 I0 n1 f1 I2 I3 n4 f4 n5 f5 x1 s0 Z_2 → v_Reader_readItem_81 I0 n1 f1 I2 I3 n4 f4 n5 f5 x1 s0 Z_3 := h
theorem y_Reader_readItem_5 {I0 : Nat → Int32} {n1 : Nat} {f1 : Nat → Int32} {I2 : Nat → Int32} {I3 : Nat → Int32} {n4 : Nat} {f4 : Nat → Int32} {n5 : Nat} {f5 : Nat → Int32} {x1 : Int32} {s0 : Int32} {Z_1 Z_2 Z_3 : Int32 → (Nat → Int32) × (Nat → Int32) × (Nat → Int32) × (Nat → Int32) → Prop} (h : (((s0 ≤ 0 → (((I2 0) = (1 : Int32) → (v_Reader_readSign_0 I0 n1 f1 I3 n4 f4 n5 f5 x1 (fun r u => (v_Reader_readItem_108 I0 n1 f1 I2 u.1 n4 u.2.1 n5 u.2.2 r  Z_1)))) ∧ (¬ (I2 0) = (1 : Int32) → (((I2 0) = (2 : Int32) → (v_Reader_readNumberItem_0 I0 n1 f1 I2 I3 n4 f4 n5 f5 x1 (fun r u => (v_Reader_readItem_69 I0 n1 f1 u.1 u.2.1 n4 u.2.2.1 n5 u.2.2.2 r  Z_1)))) ∧ (¬ (I2 0) = (2 : Int32) → (((I2 0) = (3 : Int32) → (Z_1 (0 : Int32) (I2, I3, f4, f5))) ∧ (¬ (I2 0) = (3 : Int32) → (((I2 0) = (4 : Int32) → (Z_1 (0 : Int32) (I2, I3, f4, f5))) ∧ (¬ (I2 0) = (4 : Int32) → (((I2 0) = (5 : Int32) → (v_Reader_readDateItem_0 I0 n1 f1 I3 n4 f4 n5 f5 I2 x1 (fun r u => (v_Reader_readItem_75 I0 n1 f1 u.2.2.2 u.1 n4 u.2.1 n5 u.2.2.1 r  Z_1)))) ∧ (¬ (I2 0) = (5 : Int32) → (((I2 0) = (6 : Int32) → (v_Reader_sign_0 I0 n1 f1 x1 (fun r u => (v_Reader_readItem_81 I0 n1 f1 I2 I3 n4 f4 n5 f5 x1 r  Z_1)))) ∧ (¬ (I2 0) = (6 : Int32) → (Z_1 (0 : Int32) (I2, I3, f4, f5))))))))))))))) ∧ (¬ s0 ≤ 0 → (v_Reader_addCommon_0 I0 n1 f1 I3 n4 f4 n5 f5 x1 s0 (fun u => (v_Reader_readItem_16 I0 n1 f1 I2 u.1 n4 u.2.1 n5 u.2.2 s0  Z_1)))))) → (((s0 ≤ 0 → (((I2 0) = (1 : Int32) → (v_Reader_readSign_0 I0 n1 f1 I3 n4 f4 n5 f5 x1 (fun r u => (v_Reader_readItem_108 I0 n1 f1 I2 u.1 n4 u.2.1 n5 u.2.2 r  Z_2)))) ∧ (¬ (I2 0) = (1 : Int32) → (((I2 0) = (2 : Int32) → (v_Reader_readNumberItem_0 I0 n1 f1 I2 I3 n4 f4 n5 f5 x1 (fun r u => (v_Reader_readItem_69 I0 n1 f1 u.1 u.2.1 n4 u.2.2.1 n5 u.2.2.2 r  Z_2)))) ∧ (¬ (I2 0) = (2 : Int32) → (((I2 0) = (3 : Int32) → (Z_2 (0 : Int32) (I2, I3, f4, f5))) ∧ (¬ (I2 0) = (3 : Int32) → (((I2 0) = (4 : Int32) → (Z_2 (0 : Int32) (I2, I3, f4, f5))) ∧ (¬ (I2 0) = (4 : Int32) → (((I2 0) = (5 : Int32) → (v_Reader_readDateItem_0 I0 n1 f1 I3 n4 f4 n5 f5 I2 x1 (fun r u => (v_Reader_readItem_75 I0 n1 f1 u.2.2.2 u.1 n4 u.2.1 n5 u.2.2.1 r  Z_2)))) ∧ (¬ (I2 0) = (5 : Int32) → (((I2 0) = (6 : Int32) → (v_Reader_sign_0 I0 n1 f1 x1 (fun r u => (v_Reader_readItem_81 I0 n1 f1 I2 I3 n4 f4 n5 f5 x1 r  Z_2)))) ∧ (¬ (I2 0) = (6 : Int32) → (Z_2 (0 : Int32) (I2, I3, f4, f5))))))))))))))) ∧ (¬ s0 ≤ 0 → (v_Reader_addCommon_0 I0 n1 f1 I3 n4 f4 n5 f5 x1 s0 (fun u => (v_Reader_readItem_16 I0 n1 f1 I2 u.1 n4 u.2.1 n5 u.2.2 s0  Z_2)))))) → (((s0 ≤ 0 → (((I2 0) = (1 : Int32) → (v_Reader_readSign_0 I0 n1 f1 I3 n4 f4 n5 f5 x1 (fun r u => (v_Reader_readItem_108 I0 n1 f1 I2 u.1 n4 u.2.1 n5 u.2.2 r  Z_3)))) ∧ (¬ (I2 0) = (1 : Int32) → (((I2 0) = (2 : Int32) → (v_Reader_readNumberItem_0 I0 n1 f1 I2 I3 n4 f4 n5 f5 x1 (fun r u => (v_Reader_readItem_69 I0 n1 f1 u.1 u.2.1 n4 u.2.2.1 n5 u.2.2.2 r  Z_3)))) ∧ (¬ (I2 0) = (2 : Int32) → (((I2 0) = (3 : Int32) → (Z_3 (0 : Int32) (I2, I3, f4, f5))) ∧ (¬ (I2 0) = (3 : Int32) → (((I2 0) = (4 : Int32) → (Z_3 (0 : Int32) (I2, I3, f4, f5))) ∧ (¬ (I2 0) = (4 : Int32) → (((I2 0) = (5 : Int32) → (v_Reader_readDateItem_0 I0 n1 f1 I3 n4 f4 n5 f5 I2 x1 (fun r u => (v_Reader_readItem_75 I0 n1 f1 u.2.2.2 u.1 n4 u.2.1 n5 u.2.2.1 r  Z_3)))) ∧ (¬ (I2 0) = (5 : Int32) → (((I2 0) = (6 : Int32) → (v_Reader_sign_0 I0 n1 f1 x1 (fun r u => (v_Reader_readItem_81 I0 n1 f1 I2 I3 n4 f4 n5 f5 x1 r  Z_3)))) ∧ (¬ (I2 0) = (6 : Int32) → (Z_3 (0 : Int32) (I2, I3, f4, f5))))))))))))))) ∧ (¬ s0 ≤ 0 → (v_Reader_addCommon_0 I0 n1 f1 I3 n4 f4 n5 f5 x1 s0 (fun u => (v_Reader_readItem_16 I0 n1 f1 I2 u.1 n4 u.2.1 n5 u.2.2 s0  Z_3))))))) : v_Reader_readItem_5 I0 n1 f1 I2 I3 n4 f4 n5 f5 x1 s0 Z_1 → v_Reader_readItem_5 I0 n1 f1 I2 I3 n4 f4 n5 f5 x1 s0 Z_2 → v_Reader_readItem_5 I0 n1 f1 I2 I3 n4 f4 n5 f5 x1 s0 Z_3 := h
theorem y_Reader_readItem_0 {I0 : Nat → Int32} {n1 : Nat} {f1 : Nat → Int32} {I2 : Nat → Int32} {I3 : Nat → Int32} {n4 : Nat} {f4 : Nat → Int32} {n5 : Nat} {f5 : Nat → Int32} {x1 : Int32} {Z_1 Z_2 Z_3 : Int32 → (Nat → Int32) × (Nat → Int32) × (Nat → Int32) × (Nat → Int32) → Prop} (h : ((v_Reader_commonLength_0 I0 n1 f1 x1 (fun r u => (v_Reader_readItem_5 I0 n1 f1 I2 I3 n4 f4 n5 f5 x1 r  Z_1)))) → ((v_Reader_commonLength_0 I0 n1 f1 x1 (fun r u => (v_Reader_readItem_5 I0 n1 f1 I2 I3 n4 f4 n5 f5 x1 r  Z_2)))) → ((v_Reader_commonLength_0 I0 n1 f1 x1 (fun r u => (v_Reader_readItem_5 I0 n1 f1 I2 I3 n4 f4 n5 f5 x1 r  Z_3))))) : v_Reader_readItem_0 I0 n1 f1 I2 I3 n4 f4 n5 f5 x1 Z_1 → v_Reader_readItem_0 I0 n1 f1 I2 I3 n4 f4 n5 f5 x1 Z_2 → v_Reader_readItem_0 I0 n1 f1 I2 I3 n4 f4 n5 f5 x1 Z_3 := h
theorem y_Section_isBarredFromFourth_0 {I0 : Nat → Int32} {Z_1 Z_2 Z_3 : Int32 → Unit → Prop} (h : ((((I0 0) = (1 : Int32) → (Z_1 (0 : Int32) ())) ∧ (¬ (I0 0) = (1 : Int32) → (((I0 0) = (6 : Int32) → (Z_1 (0 : Int32) ())) ∧ (¬ (I0 0) = (6 : Int32) → (Z_1 (1 : Int32) ())))))) → ((((I0 0) = (1 : Int32) → (Z_2 (0 : Int32) ())) ∧ (¬ (I0 0) = (1 : Int32) → (((I0 0) = (6 : Int32) → (Z_2 (0 : Int32) ())) ∧ (¬ (I0 0) = (6 : Int32) → (Z_2 (1 : Int32) ())))))) → ((((I0 0) = (1 : Int32) → (Z_3 (0 : Int32) ())) ∧ (¬ (I0 0) = (1 : Int32) → (((I0 0) = (6 : Int32) → (Z_3 (0 : Int32) ())) ∧ (¬ (I0 0) = (6 : Int32) → (Z_3 (1 : Int32) ()))))))) : v_Section_isBarredFromFourth_0 I0 Z_1 → v_Section_isBarredFromFourth_0 I0 Z_2 → v_Section_isBarredFromFourth_0 I0 Z_3 := h
theorem y_Reader_sectionEnd_29 {I0 : Nat → Int32} {n1 : Nat} {f1 : Nat → Int32} {s0 : Int32} {s1 : Int32} {s2 : Int32} {k2_1 k2_2 k2_3 : Int32 → Prop} {Z_1 Z_2 Z_3 : Int32 → Unit → Prop} (h : ((k2_1 (s0 + (zmax s1 s2)))) → ((k2_2 (s0 + (zmax s1 s2)))) → ((k2_3 (s0 + (zmax s1 s2))))) : v_Reader_sectionEnd_29 I0 n1 f1 s0 s1 s2 k2_1 Z_1 → v_Reader_sectionEnd_29 I0 n1 f1 s0 s1 s2 k2_2 Z_2 → v_Reader_sectionEnd_29 I0 n1 f1 s0 s1 s2 k2_3 Z_3 := h
theorem y_Reader_sectionEnd_15 {I0 : Nat → Int32} {n1 : Nat} {f1 : Nat → Int32} {x2 : Int32} {s0 : Int32} {k2_1 k2_2 k2_3 : Int32 → Prop} {Z_1 Z_2 Z_3 : Int32 → Unit → Prop} (h : (((¬ s0 = (59 : Int32) → (v_Reader_commonLength_0 I0 n1 f1 x2 (fun r u => (v_Reader_sectionEnd_29 I0 n1 f1 x2 (1 : Int32) r k2_1 Z_1)))) ∧ (s0 = (59 : Int32) → (Z_1 x2 ())))) → (((¬ s0 = (59 : Int32) → (v_Reader_commonLength_0 I0 n1 f1 x2 (fun r u => (v_Reader_sectionEnd_29 I0 n1 f1 x2 (1 : Int32) r k2_2 Z_2)))) ∧ (s0 = (59 : Int32) → (Z_2 x2 ())))) → (((¬ s0 = (59 : Int32) → (v_Reader_commonLength_0 I0 n1 f1 x2 (fun r u => (v_Reader_sectionEnd_29 I0 n1 f1 x2 (1 : Int32) r k2_3 Z_3)))) ∧ (s0 = (59 : Int32) → (Z_3 x2 ()))))) : v_Reader_sectionEnd_15 I0 n1 f1 x2 s0 k2_1 Z_1 → v_Reader_sectionEnd_15 I0 n1 f1 x2 s0 k2_2 Z_2 → v_Reader_sectionEnd_15 I0 n1 f1 x2 s0 k2_3 Z_3 := h
theorem y_Reader_sectionEnd_2 {I0 : Nat → Int32} {n1 : Nat} {f1 : Nat → Int32} {Z_1 Z_2 Z_3 : Int32 → Unit → Prop} {N M : Nat} {x2 : Int32} (h : ((((I0 1) ≤ x2 → (Z_1 (I0 1) ())) ∧ (¬ (I0 1) ≤ x2 → (v_Reader_sign_0 I0 n1 f1 x2 (fun r u => (v_Reader_sectionEnd_15 I0 n1 f1 x2 r (v_Reader_sectionEnd_2 I0 n1 f1  Z_1 N) Z_1)))))) → ((((I0 1) ≤ x2 → (Z_2 (I0 1) ())) ∧ (¬ (I0 1) ≤ x2 → (v_Reader_sign_0 I0 n1 f1 x2 (fun r u => (v_Reader_sectionEnd_15 I0 n1 f1 x2 r (v_Reader_sectionEnd_2 I0 n1 f1  Z_2 M) Z_2)))))) → ((((I0 1) ≤ x2 → (Z_3 (I0 1) ())) ∧ (¬ (I0 1) ≤ x2 → (v_Reader_sign_0 I0 n1 f1 x2 (fun r u => (v_Reader_sectionEnd_15 I0 n1 f1 x2 r (v_Reader_sectionEnd_2 I0 n1 f1  Z_3 N) Z_3))))))) : v_Reader_sectionEnd_2 I0 n1 f1 Z_1 (N + 1) x2 → v_Reader_sectionEnd_2 I0 n1 f1 Z_2 (M + 1) x2 → v_Reader_sectionEnd_2 I0 n1 f1 Z_3 (N + 1) x2 := h
theorem y_Reader_sectionEnd_0 {I0 : Nat → Int32} {n1 : Nat} {f1 : Nat → Int32} {x1 : Int32} {Z_1 Z_2 Z_3 : Int32 → Unit → Prop} (h : ((∃ Nx, v_Reader_sectionEnd_2 I0 n1 f1  Z_1 Nx x1)) → ((∃ Nx, v_Reader_sectionEnd_2 I0 n1 f1  Z_2 Nx x1)) → ((∃ Nx, v_Reader_sectionEnd_2 I0 n1 f1  Z_3 Nx x1))) : v_Reader_sectionEnd_0 I0 n1 f1 x1 Z_1 → v_Reader_sectionEnd_0 I0 n1 f1 x1 Z_2 → v_Reader_sectionEnd_0 I0 n1 f1 x1 Z_3 := h

set_option maxRecDepth 10000 in
theorem j_S_isLatin1 {x0 : Nat} {Z1 Z2 Z3 : Int32 → Unit → Prop} (hZ : ∀ r u, Z1 r u → Z2 r u → Z3 r u) : v_S_isLatin1_0 x0 Z1 → v_S_isLatin1_0 x0 Z2 → v_S_isLatin1_0 x0 Z3 := by
  repeat' first
    | with_reducible exact hZ _ _
    | (with_reducible refine jI_4 (fun h => ?_) (fun h => ?_) (fun h => ?_) (fun h => ?_))
    | (with_reducible refine jI_opt (fun h => ?_) (fun j h => ?_))
    | (with_reducible refine jI_ite (fun h => ?_) (fun h => ?_))
    | (with_reducible refine jI_ite' (fun h => ?_) (fun h => ?_))
    | with_reducible exact jI_no
    | (with_reducible refine jI_all ?_)
    | (with_reducible refine jI_and ?_)
    | (with_reducible refine y_S_isLatin1_0 ?_)
set_option maxRecDepth 10000 in
theorem j_P_checkIndex {x0 : Int32} {x1 : Int32} {Z1 Z2 Z3 : Int32 → Unit → Prop} (hZ : ∀ r u, Z1 r u → Z2 r u → Z3 r u) : v_P_checkIndex_0 x0 x1 Z1 → v_P_checkIndex_0 x0 x1 Z2 → v_P_checkIndex_0 x0 x1 Z3 := by
  repeat' first
    | with_reducible exact hZ _ _
    | (with_reducible refine jI_4 (fun h => ?_) (fun h => ?_) (fun h => ?_) (fun h => ?_))
    | (with_reducible refine jI_opt (fun h => ?_) (fun j h => ?_))
    | (with_reducible refine jI_ite (fun h => ?_) (fun h => ?_))
    | (with_reducible refine jI_ite' (fun h => ?_) (fun h => ?_))
    | with_reducible exact jI_no
    | (with_reducible refine jI_all ?_)
    | (with_reducible refine jI_and ?_)
    | (with_reducible refine y_P_checkIndex_9 ?_)
    | (with_reducible refine y_P_checkIndex_0 ?_)
set_option maxRecDepth 10000 in
theorem j_S_checkIndex {x0 : Int32} {x1 : Int32} {Z1 Z2 Z3 : Unit → Prop} (hZ : ∀ u, Z1 u → Z2 u → Z3 u) : v_S_checkIndex_0 x0 x1 Z1 → v_S_checkIndex_0 x0 x1 Z2 → v_S_checkIndex_0 x0 x1 Z3 := by
  repeat' first
    | (with_reducible refine j_P_checkIndex (fun r u => ?_))
    | with_reducible exact hZ _
    | (with_reducible refine jI_4 (fun h => ?_) (fun h => ?_) (fun h => ?_) (fun h => ?_))
    | (with_reducible refine jI_opt (fun h => ?_) (fun j h => ?_))
    | (with_reducible refine jI_ite (fun h => ?_) (fun h => ?_))
    | (with_reducible refine jI_ite' (fun h => ?_) (fun h => ?_))
    | with_reducible exact jI_no
    | (with_reducible refine jI_all ?_)
    | (with_reducible refine jI_and ?_)
    | (with_reducible refine y_S_checkIndex_8 ?_)
    | (with_reducible refine y_S_checkIndex_0 ?_)
set_option maxRecDepth 10000 in
theorem j_SL_charAt {x0 : Nat} {x1 : Int32} {Z1 Z2 Z3 : Int32 → Unit → Prop} (hZ : ∀ r u, Z1 r u → Z2 r u → Z3 r u) : v_SL_charAt_0 x0 x1 Z1 → v_SL_charAt_0 x0 x1 Z2 → v_SL_charAt_0 x0 x1 Z3 := by
  repeat' first
    | (with_reducible refine j_S_checkIndex (fun u => ?_))
    | with_reducible exact hZ _ _
    | (with_reducible refine jI_4 (fun h => ?_) (fun h => ?_) (fun h => ?_) (fun h => ?_))
    | (with_reducible refine jI_opt (fun h => ?_) (fun j h => ?_))
    | (with_reducible refine jI_ite (fun h => ?_) (fun h => ?_))
    | (with_reducible refine jI_ite' (fun h => ?_) (fun h => ?_))
    | with_reducible exact jI_no
    | (with_reducible refine jI_all ?_)
    | (with_reducible refine jI_and ?_)
    | (with_reducible refine y_SL_charAt_6 ?_)
    | (with_reducible refine y_SL_charAt_0 ?_)
set_option maxRecDepth 10000 in
theorem j_S_charAt {x0 : Nat} {x1 : Int32} {Z1 Z2 Z3 : Int32 → Unit → Prop} (hZ : ∀ r u, Z1 r u → Z2 r u → Z3 r u) : v_S_charAt_0 x0 x1 Z1 → v_S_charAt_0 x0 x1 Z2 → v_S_charAt_0 x0 x1 Z3 := by
  repeat' first
    | (with_reducible refine j_S_isLatin1 (fun r u => ?_))
    | (with_reducible refine j_SL_charAt (fun r u => ?_))
    | with_reducible exact hZ _ _
    | (with_reducible refine jI_4 (fun h => ?_) (fun h => ?_) (fun h => ?_) (fun h => ?_))
    | (with_reducible refine jI_opt (fun h => ?_) (fun j h => ?_))
    | (with_reducible refine jI_ite (fun h => ?_) (fun h => ?_))
    | (with_reducible refine jI_ite' (fun h => ?_) (fun h => ?_))
    | with_reducible exact jI_no
    | (with_reducible refine jI_all ?_)
    | (with_reducible refine jI_and ?_)
    | (with_reducible refine y_S_charAt_15 ?_)
    | (with_reducible refine y_S_charAt_4 ?_)
    | (with_reducible refine y_S_charAt_0 ?_)
set_option maxRecDepth 10000 in
theorem j_S_coder {x0 : Nat} {Z1 Z2 Z3 : Int32 → Unit → Prop} (hZ : ∀ r u, Z1 r u → Z2 r u → Z3 r u) : v_S_coder_0 x0 Z1 → v_S_coder_0 x0 Z2 → v_S_coder_0 x0 Z3 := by
  repeat' first
    | with_reducible exact hZ _ _
    | (with_reducible refine jI_4 (fun h => ?_) (fun h => ?_) (fun h => ?_) (fun h => ?_))
    | (with_reducible refine jI_opt (fun h => ?_) (fun j h => ?_))
    | (with_reducible refine jI_ite (fun h => ?_) (fun h => ?_))
    | (with_reducible refine jI_ite' (fun h => ?_) (fun h => ?_))
    | with_reducible exact jI_no
    | (with_reducible refine jI_all ?_)
    | (with_reducible refine jI_and ?_)
    | (with_reducible refine y_S_coder_0 ?_)
set_option maxRecDepth 10000 in
theorem j_S_length {x0 : Nat} {Z1 Z2 Z3 : Int32 → Unit → Prop} (hZ : ∀ r u, Z1 r u → Z2 r u → Z3 r u) : v_S_length_0 x0 Z1 → v_S_length_0 x0 Z2 → v_S_length_0 x0 Z3 := by
  repeat' first
    | (with_reducible refine j_S_coder (fun r u => ?_))
    | with_reducible exact hZ _ _
    | (with_reducible refine jI_4 (fun h => ?_) (fun h => ?_) (fun h => ?_) (fun h => ?_))
    | (with_reducible refine jI_opt (fun h => ?_) (fun j h => ?_))
    | (with_reducible refine jI_ite (fun h => ?_) (fun h => ?_))
    | (with_reducible refine jI_ite' (fun h => ?_) (fun h => ?_))
    | with_reducible exact jI_no
    | (with_reducible refine jI_all ?_)
    | (with_reducible refine jI_and ?_)
    | (with_reducible refine y_S_length_9 ?_)
    | (with_reducible refine y_S_length_0 ?_)
set_option maxRecDepth 10000 in
theorem j_SL_canEncode {x0 : Int32} {Z1 Z2 Z3 : Int32 → Unit → Prop} (hZ : ∀ r u, Z1 r u → Z2 r u → Z3 r u) : v_SL_canEncode_0 x0 Z1 → v_SL_canEncode_0 x0 Z2 → v_SL_canEncode_0 x0 Z3 := by
  repeat' first
    | with_reducible exact hZ _ _
    | (with_reducible refine jI_4 (fun h => ?_) (fun h => ?_) (fun h => ?_) (fun h => ?_))
    | (with_reducible refine jI_opt (fun h => ?_) (fun j h => ?_))
    | (with_reducible refine jI_ite (fun h => ?_) (fun h => ?_))
    | (with_reducible refine jI_ite' (fun h => ?_) (fun h => ?_))
    | with_reducible exact jI_no
    | (with_reducible refine jI_all ?_)
    | (with_reducible refine jI_and ?_)
    | (with_reducible refine y_SL_canEncode_0 ?_)
set_option maxRecDepth 10000 in
theorem j_SL_indexOfChar {x0 : Nat} {x1 : Int32} {x2 : Int32} {x3 : Int32} {Z1 Z2 Z3 : Int32 → Unit → Prop} (hZ : ∀ r u, Z1 r u → Z2 r u → Z3 r u) : v_SL_indexOfChar_0 x0 x1 x2 x3 Z1 → v_SL_indexOfChar_0 x0 x1 x2 x3 Z2 → v_SL_indexOfChar_0 x0 x1 x2 x3 Z3 := by
  have lp7 : ∀ (N M : Nat) (cx0 : Nat) (cx3 : Int32) (cx4 : Int32) (cx5 : Int32), v_SL_indexOfChar_7 cx0 cx3 cx4 Z1 N cx5 → v_SL_indexOfChar_7 cx0 cx3 cx4 Z2 M cx5 → v_SL_indexOfChar_7 cx0 cx3 cx4 Z3 N cx5 := by
    intro N; induction N with
    | zero => intro M cx0 cx3 cx4 cx5 h; exact h.elim
    | succ N ih =>
      intro M; cases M with
      | zero => intro cx0 cx3 cx4 cx5 _ h; exact h.elim
      | succ M =>
        intro cx0 cx3 cx4 cx5
        repeat' first
          | with_reducible exact ih _ _ _ _ _ 
          | with_reducible exact hZ _ _
          | (with_reducible refine jI_4 (fun h => ?_) (fun h => ?_) (fun h => ?_) (fun h => ?_))
          | (with_reducible refine jI_opt (fun h => ?_) (fun j h => ?_))
          | (with_reducible refine jI_ite (fun h => ?_) (fun h => ?_))
          | (with_reducible refine jI_ite' (fun h => ?_) (fun h => ?_))
          | with_reducible exact jI_no
          | (with_reducible refine jI_all ?_)
          | (with_reducible refine jI_and ?_)
          | (with_reducible refine y_SL_indexOfChar_7 ?_)
          | (with_reducible refine y_SL_indexOfChar_0 ?_)
  repeat' first
    | (with_reducible exact jI_ex (fun N M => lp7 N M _ _ _ _ ))
    | with_reducible exact hZ _ _
    | (with_reducible refine jI_4 (fun h => ?_) (fun h => ?_) (fun h => ?_) (fun h => ?_))
    | (with_reducible refine jI_opt (fun h => ?_) (fun j h => ?_))
    | (with_reducible refine jI_ite (fun h => ?_) (fun h => ?_))
    | (with_reducible refine jI_ite' (fun h => ?_) (fun h => ?_))
    | with_reducible exact jI_no
    | (with_reducible refine jI_all ?_)
    | (with_reducible refine jI_and ?_)
    | (with_reducible refine y_SL_indexOfChar_7 ?_)
    | (with_reducible refine y_SL_indexOfChar_0 ?_)
set_option maxRecDepth 10000 in
theorem j_SL_indexOf {x0 : Nat} {x1 : Int32} {x2 : Int32} {x3 : Int32} {Z1 Z2 Z3 : Int32 → Unit → Prop} (hZ : ∀ r u, Z1 r u → Z2 r u → Z3 r u) : v_SL_indexOf_0 x0 x1 x2 x3 Z1 → v_SL_indexOf_0 x0 x1 x2 x3 Z2 → v_SL_indexOf_0 x0 x1 x2 x3 Z3 := by
  repeat' first
    | (with_reducible refine j_SL_canEncode (fun r u => ?_))
    | (with_reducible refine j_SL_indexOfChar (fun r u => ?_))
    | with_reducible exact hZ _ _
    | (with_reducible refine jI_4 (fun h => ?_) (fun h => ?_) (fun h => ?_) (fun h => ?_))
    | (with_reducible refine jI_opt (fun h => ?_) (fun j h => ?_))
    | (with_reducible refine jI_ite (fun h => ?_) (fun h => ?_))
    | (with_reducible refine jI_ite' (fun h => ?_) (fun h => ?_))
    | with_reducible exact jI_no
    | (with_reducible refine jI_all ?_)
    | (with_reducible refine jI_and ?_)
    | (with_reducible refine y_SL_indexOf_36 ?_)
    | (with_reducible refine y_SL_indexOf_4 ?_)
    | (with_reducible refine y_SL_indexOf_0 ?_)
set_option maxRecDepth 10000 in
theorem j_S_indexOf1 {x0 : Nat} {x1 : Int32} {x2 : Int32} {Z1 Z2 Z3 : Int32 → Unit → Prop} (hZ : ∀ r u, Z1 r u → Z2 r u → Z3 r u) : v_S_indexOf1_0 x0 x1 x2 Z1 → v_S_indexOf1_0 x0 x1 x2 Z2 → v_S_indexOf1_0 x0 x1 x2 Z3 := by
  repeat' first
    | (with_reducible refine j_S_isLatin1 (fun r u => ?_))
    | (with_reducible refine j_S_length (fun r u => ?_))
    | (with_reducible refine j_SL_indexOf (fun r u => ?_))
    | with_reducible exact hZ _ _
    | (with_reducible refine jI_4 (fun h => ?_) (fun h => ?_) (fun h => ?_) (fun h => ?_))
    | (with_reducible refine jI_opt (fun h => ?_) (fun j h => ?_))
    | (with_reducible refine jI_ite (fun h => ?_) (fun h => ?_))
    | (with_reducible refine jI_ite' (fun h => ?_) (fun h => ?_))
    | with_reducible exact jI_no
    | (with_reducible refine jI_all ?_)
    | (with_reducible refine jI_and ?_)
    | (with_reducible refine y_S_indexOf1_20 ?_)
    | (with_reducible refine y_S_indexOf1_17 ?_)
    | (with_reducible refine y_S_indexOf1_33 ?_)
    | (with_reducible refine y_S_indexOf1_4 ?_)
    | (with_reducible refine y_S_indexOf1_0 ?_)
set_option maxRecDepth 10000 in
theorem j_S_indexOf0 {x0 : Nat} {x1 : Int32} {Z1 Z2 Z3 : Int32 → Unit → Prop} (hZ : ∀ r u, Z1 r u → Z2 r u → Z3 r u) : v_S_indexOf0_0 x0 x1 Z1 → v_S_indexOf0_0 x0 x1 Z2 → v_S_indexOf0_0 x0 x1 Z3 := by
  repeat' first
    | (with_reducible refine j_S_indexOf1 (fun r u => ?_))
    | with_reducible exact hZ _ _
    | (with_reducible refine jI_4 (fun h => ?_) (fun h => ?_) (fun h => ?_) (fun h => ?_))
    | (with_reducible refine jI_opt (fun h => ?_) (fun j h => ?_))
    | (with_reducible refine jI_ite (fun h => ?_) (fun h => ?_))
    | (with_reducible refine jI_ite' (fun h => ?_) (fun h => ?_))
    | with_reducible exact jI_no
    | (with_reducible refine jI_all ?_)
    | (with_reducible refine jI_and ?_)
    | (with_reducible refine y_S_indexOf0_6 ?_)
    | (with_reducible refine y_S_indexOf0_0 ?_)
set_option maxRecDepth 10000 in
theorem j_Reader_isOwnLiteral {x0 : Int32} {Z1 Z2 Z3 : Int32 → Unit → Prop} (hZ : ∀ r u, Z1 r u → Z2 r u → Z3 r u) : v_Reader_isOwnLiteral_0 x0 Z1 → v_Reader_isOwnLiteral_0 x0 Z2 → v_Reader_isOwnLiteral_0 x0 Z3 := by
  repeat' first
    | (with_reducible refine j_S_indexOf0 (fun r u => ?_))
    | with_reducible exact hZ _ _
    | (with_reducible refine jI_4 (fun h => ?_) (fun h => ?_) (fun h => ?_) (fun h => ?_))
    | (with_reducible refine jI_opt (fun h => ?_) (fun j h => ?_))
    | (with_reducible refine jI_ite (fun h => ?_) (fun h => ?_))
    | (with_reducible refine jI_ite' (fun h => ?_) (fun h => ?_))
    | with_reducible exact jI_no
    | (with_reducible refine jI_all ?_)
    | (with_reducible refine jI_and ?_)
    | (with_reducible refine y_Reader_isOwnLiteral_11 ?_)
    | (with_reducible refine y_Reader_isOwnLiteral_0 ?_)
set_option maxRecDepth 10000 in
theorem j_Reader_colour {x0 : Int32} {Z1 Z2 Z3 : Nat → Unit → Prop} (hZ : ∀ r u, Z1 r u → Z2 r u → Z3 r u) : v_Reader_colour_0 x0 Z1 → v_Reader_colour_0 x0 Z2 → v_Reader_colour_0 x0 Z3 := by
  repeat' first
    | with_reducible exact hZ _ _
    | (with_reducible refine jI_4 (fun h => ?_) (fun h => ?_) (fun h => ?_) (fun h => ?_))
    | (with_reducible refine jI_opt (fun h => ?_) (fun j h => ?_))
    | (with_reducible refine jI_ite (fun h => ?_) (fun h => ?_))
    | (with_reducible refine jI_ite' (fun h => ?_) (fun h => ?_))
    | with_reducible exact jI_no
    | (with_reducible refine jI_all ?_)
    | (with_reducible refine jI_and ?_)
    | (with_reducible refine y_Reader_colour_0 ?_)
set_option maxRecDepth 10000 in
theorem j_Code_kind {I0 : Nat → Int32} {n1 : Nat} {f1 : Nat → Int32} {x1 : Int32} {Z1 Z2 Z3 : Int32 → Unit → Prop} (hZ : ∀ r u, Z1 r u → Z2 r u → Z3 r u) : v_Code_kind_0 I0 n1 f1 x1 Z1 → v_Code_kind_0 I0 n1 f1 x1 Z2 → v_Code_kind_0 I0 n1 f1 x1 Z3 := by
  repeat' first
    | with_reducible exact hZ _ _
    | (with_reducible refine jI_4 (fun h => ?_) (fun h => ?_) (fun h => ?_) (fun h => ?_))
    | (with_reducible refine jI_opt (fun h => ?_) (fun j h => ?_))
    | (with_reducible refine jI_ite (fun h => ?_) (fun h => ?_))
    | (with_reducible refine jI_ite' (fun h => ?_) (fun h => ?_))
    | with_reducible exact jI_no
    | (with_reducible refine jI_all ?_)
    | (with_reducible refine jI_and ?_)
    | (with_reducible refine y_Code_kind_0 ?_)
set_option maxRecDepth 10000 in
theorem j_Code_mark {I0 : Nat → Int32} {n1 : Nat} {f1 : Nat → Int32} {x1 : Int32} {Z1 Z2 Z3 : Int32 → Unit → Prop} (hZ : ∀ r u, Z1 r u → Z2 r u → Z3 r u) : v_Code_mark_0 I0 n1 f1 x1 Z1 → v_Code_mark_0 I0 n1 f1 x1 Z2 → v_Code_mark_0 I0 n1 f1 x1 Z3 := by
  repeat' first
    | with_reducible exact hZ _ _
    | (with_reducible refine jI_4 (fun h => ?_) (fun h => ?_) (fun h => ?_) (fun h => ?_))
    | (with_reducible refine jI_opt (fun h => ?_) (fun j h => ?_))
    | (with_reducible refine jI_ite (fun h => ?_) (fun h => ?_))
    | (with_reducible refine jI_ite' (fun h => ?_) (fun h => ?_))
    | with_reducible exact jI_no
    | (with_reducible refine jI_all ?_)
    | (with_reducible refine jI_and ?_)
    | (with_reducible refine y_Code_mark_0 ?_)
set_option maxRecDepth 10000 in
theorem j_Code_add {I0 : Nat → Int32} {n1 : Nat} {f1 : Nat → Int32} {n2 : Nat} {f2 : Nat → Int32} {x1 : Int32} {x2 : Int32} {Z1 Z2 Z3 : (Nat → Int32) × (Nat → Int32) × (Nat → Int32) → Prop} (hZ : ∀ u, Z1 u → Z2 u → Z3 u) : v_Code_add_0 I0 n1 f1 n2 f2 x1 x2 Z1 → v_Code_add_0 I0 n1 f1 n2 f2 x1 x2 Z2 → v_Code_add_0 I0 n1 f1 n2 f2 x1 x2 Z3 := by
  repeat' first
    | with_reducible exact hZ _
    | (with_reducible refine jI_4 (fun h => ?_) (fun h => ?_) (fun h => ?_) (fun h => ?_))
    | (with_reducible refine jI_opt (fun h => ?_) (fun j h => ?_))
    | (with_reducible refine jI_ite (fun h => ?_) (fun h => ?_))
    | (with_reducible refine jI_ite' (fun h => ?_) (fun h => ?_))
    | with_reducible exact jI_no
    | (with_reducible refine jI_all ?_)
    | (with_reducible refine jI_and ?_)
    | (with_reducible refine y_Code_add_0 ?_)
set_option maxRecDepth 10000 in
theorem j_Code_change {I0 : Nat → Int32} {n1 : Nat} {f1 : Nat → Int32} {x1 : Int32} {x2 : Int32} {Z1 Z2 Z3 : (Nat → Int32) → Prop} (hZ : ∀ u, Z1 u → Z2 u → Z3 u) : v_Code_change_0 I0 n1 f1 x1 x2 Z1 → v_Code_change_0 I0 n1 f1 x1 x2 Z2 → v_Code_change_0 I0 n1 f1 x1 x2 Z3 := by
  repeat' first
    | with_reducible exact hZ _
    | (with_reducible refine jI_4 (fun h => ?_) (fun h => ?_) (fun h => ?_) (fun h => ?_))
    | (with_reducible refine jI_opt (fun h => ?_) (fun j h => ?_))
    | (with_reducible refine jI_ite (fun h => ?_) (fun h => ?_))
    | (with_reducible refine jI_ite' (fun h => ?_) (fun h => ?_))
    | with_reducible exact jI_no
    | (with_reducible refine jI_all ?_)
    | (with_reducible refine jI_and ?_)
    | (with_reducible refine y_Code_change_0 ?_)
set_option maxRecDepth 10000 in
theorem j_Section_clear {I0 : Nat → Int32} {x1 : Int32} {Z1 Z2 Z3 : (Nat → Int32) → Prop} (hZ : ∀ u, Z1 u → Z2 u → Z3 u) : v_Section_clear_0 I0 x1 Z1 → v_Section_clear_0 I0 x1 Z2 → v_Section_clear_0 I0 x1 Z3 := by
  repeat' first
    | with_reducible exact hZ _
    | (with_reducible refine jI_4 (fun h => ?_) (fun h => ?_) (fun h => ?_) (fun h => ?_))
    | (with_reducible refine jI_opt (fun h => ?_) (fun j h => ?_))
    | (with_reducible refine jI_ite (fun h => ?_) (fun h => ?_))
    | (with_reducible refine jI_ite' (fun h => ?_) (fun h => ?_))
    | with_reducible exact jI_no
    | (with_reducible refine jI_all ?_)
    | (with_reducible refine jI_and ?_)
    | (with_reducible refine y_Section_clear_0 ?_)
set_option maxRecDepth 10000 in
theorem j_Code_open {I0 : Nat → Int32} {I2 : Nat → Int32} {I3 : Nat → Int32} {I4 : Nat → Int32} {I5 : Nat → Int32} {Z1 Z2 Z3 : Option Nat → (Nat → Int32) × (Nat → Int32) × (Nat → Int32) × (Nat → Int32) × (Nat → Int32) → Prop} (hZ : ∀ r u, Z1 r u → Z2 r u → Z3 r u) : v_Code_open_0 I0 I2 I3 I4 I5 Z1 → v_Code_open_0 I0 I2 I3 I4 I5 Z2 → v_Code_open_0 I0 I2 I3 I4 I5 Z3 := by
  repeat' first
    | (with_reducible refine j_Section_clear (fun u => ?_))
    | with_reducible exact hZ _ _
    | (with_reducible refine jI_4 (fun h => ?_) (fun h => ?_) (fun h => ?_) (fun h => ?_))
    | (with_reducible refine jI_opt (fun h => ?_) (fun j h => ?_))
    | (with_reducible refine jI_ite (fun h => ?_) (fun h => ?_))
    | (with_reducible refine jI_ite' (fun h => ?_) (fun h => ?_))
    | with_reducible exact jI_no
    | (with_reducible refine jI_all ?_)
    | (with_reducible refine jI_and ?_)
    | (with_reducible refine y_Code_open_43 ?_)
    | (with_reducible refine y_Code_open_0 ?_)
set_option maxRecDepth 10000 in
theorem j_Reader_isPlace {x0 : Int32} {Z1 Z2 Z3 : Int32 → Unit → Prop} (hZ : ∀ r u, Z1 r u → Z2 r u → Z3 r u) : v_Reader_isPlace_0 x0 Z1 → v_Reader_isPlace_0 x0 Z2 → v_Reader_isPlace_0 x0 Z3 := by
  repeat' first
    | with_reducible exact hZ _ _
    | (with_reducible refine jI_4 (fun h => ?_) (fun h => ?_) (fun h => ?_) (fun h => ?_))
    | (with_reducible refine jI_opt (fun h => ?_) (fun j h => ?_))
    | (with_reducible refine jI_ite (fun h => ?_) (fun h => ?_))
    | (with_reducible refine jI_ite' (fun h => ?_) (fun h => ?_))
    | with_reducible exact jI_no
    | (with_reducible refine jI_all ?_)
    | (with_reducible refine jI_and ?_)
    | (with_reducible refine y_Reader_isPlace_0 ?_)
set_option maxRecDepth 10000 in
theorem j_Reader_isDigit {x0 : Int32} {Z1 Z2 Z3 : Int32 → Unit → Prop} (hZ : ∀ r u, Z1 r u → Z2 r u → Z3 r u) : v_Reader_isDigit_0 x0 Z1 → v_Reader_isDigit_0 x0 Z2 → v_Reader_isDigit_0 x0 Z3 := by
  repeat' first
    | with_reducible exact hZ _ _
    | (with_reducible refine jI_4 (fun h => ?_) (fun h => ?_) (fun h => ?_) (fun h => ?_))
    | (with_reducible refine jI_opt (fun h => ?_) (fun j h => ?_))
    | (with_reducible refine jI_ite (fun h => ?_) (fun h => ?_))
    | (with_reducible refine jI_ite' (fun h => ?_) (fun h => ?_))
    | with_reducible exact jI_no
    | (with_reducible refine jI_all ?_)
    | (with_reducible refine jI_and ?_)
    | (with_reducible refine y_Reader_isDigit_0 ?_)
set_option maxRecDepth 10000 in
theorem j_Reader_isDateLetter {x0 : Int32} {Z1 Z2 Z3 : Int32 → Unit → Prop} (hZ : ∀ r u, Z1 r u → Z2 r u → Z3 r u) : v_Reader_isDateLetter_0 x0 Z1 → v_Reader_isDateLetter_0 x0 Z2 → v_Reader_isDateLetter_0 x0 Z3 := by
  repeat' first
    | with_reducible exact hZ _ _
    | (with_reducible refine jI_4 (fun h => ?_) (fun h => ?_) (fun h => ?_) (fun h => ?_))
    | (with_reducible refine jI_opt (fun h => ?_) (fun j h => ?_))
    | (with_reducible refine jI_ite (fun h => ?_) (fun h => ?_))
    | (with_reducible refine jI_ite' (fun h => ?_) (fun h => ?_))
    | with_reducible exact jI_no
    | (with_reducible refine jI_all ?_)
    | (with_reducible refine jI_and ?_)
    | (with_reducible refine y_Reader_isDateLetter_0 ?_)
set_option maxRecDepth 10000 in
theorem j_Section_isBarredFromFourth {I0 : Nat → Int32} {Z1 Z2 Z3 : Int32 → Unit → Prop} (hZ : ∀ r u, Z1 r u → Z2 r u → Z3 r u) : v_Section_isBarredFromFourth_0 I0 Z1 → v_Section_isBarredFromFourth_0 I0 Z2 → v_Section_isBarredFromFourth_0 I0 Z3 := by
  repeat' first
    | with_reducible exact hZ _ _
    | (with_reducible refine jI_4 (fun h => ?_) (fun h => ?_) (fun h => ?_) (fun h => ?_))
    | (with_reducible refine jI_opt (fun h => ?_) (fun j h => ?_))
    | (with_reducible refine jI_ite (fun h => ?_) (fun h => ?_))
    | (with_reducible refine jI_ite' (fun h => ?_) (fun h => ?_))
    | with_reducible exact jI_no
    | (with_reducible refine jI_all ?_)
    | (with_reducible refine jI_and ?_)
    | (with_reducible refine y_Section_isBarredFromFourth_0 ?_)
set_option maxRecDepth 10000 in
theorem j_Section_hasCommaOrPercent {I0 : Nat → Int32} {Z1 Z2 Z3 : Int32 → Unit → Prop} (hZ : ∀ r u, Z1 r u → Z2 r u → Z3 r u) : v_Section_hasCommaOrPercent_0 I0 Z1 → v_Section_hasCommaOrPercent_0 I0 Z2 → v_Section_hasCommaOrPercent_0 I0 Z3 := by
  repeat' first
    | with_reducible exact hZ _ _
    | (with_reducible refine jI_4 (fun h => ?_) (fun h => ?_) (fun h => ?_) (fun h => ?_))
    | (with_reducible refine jI_opt (fun h => ?_) (fun j h => ?_))
    | (with_reducible refine jI_ite (fun h => ?_) (fun h => ?_))
    | (with_reducible refine jI_ite' (fun h => ?_) (fun h => ?_))
    | with_reducible exact jI_no
    | (with_reducible refine jI_all ?_)
    | (with_reducible refine jI_and ?_)
    | (with_reducible refine y_Section_hasCommaOrPercent_0 ?_)
set_option maxRecDepth 10000 in
theorem j_Reader_sign {I0 : Nat → Int32} {n1 : Nat} {f1 : Nat → Int32} {x1 : Int32} {Z1 Z2 Z3 : Int32 → Unit → Prop} (hZ : ∀ r u, Z1 r u → Z2 r u → Z3 r u) : v_Reader_sign_0 I0 n1 f1 x1 Z1 → v_Reader_sign_0 I0 n1 f1 x1 Z2 → v_Reader_sign_0 I0 n1 f1 x1 Z3 := by
  repeat' first
    | with_reducible exact hZ _ _
    | (with_reducible refine jI_4 (fun h => ?_) (fun h => ?_) (fun h => ?_) (fun h => ?_))
    | (with_reducible refine jI_opt (fun h => ?_) (fun j h => ?_))
    | (with_reducible refine jI_ite (fun h => ?_) (fun h => ?_))
    | (with_reducible refine jI_ite' (fun h => ?_) (fun h => ?_))
    | with_reducible exact jI_no
    | (with_reducible refine jI_all ?_)
    | (with_reducible refine jI_and ?_)
    | (with_reducible refine y_Reader_sign_0 ?_)
set_option maxRecDepth 10000 in
theorem j_Reader_small {I0 : Nat → Int32} {n1 : Nat} {f1 : Nat → Int32} {x1 : Int32} {Z1 Z2 Z3 : Int32 → Unit → Prop} (hZ : ∀ r u, Z1 r u → Z2 r u → Z3 r u) : v_Reader_small_0 I0 n1 f1 x1 Z1 → v_Reader_small_0 I0 n1 f1 x1 Z2 → v_Reader_small_0 I0 n1 f1 x1 Z3 := by
  repeat' first
    | with_reducible exact hZ _ _
    | (with_reducible refine jI_4 (fun h => ?_) (fun h => ?_) (fun h => ?_) (fun h => ?_))
    | (with_reducible refine jI_opt (fun h => ?_) (fun j h => ?_))
    | (with_reducible refine jI_ite (fun h => ?_) (fun h => ?_))
    | (with_reducible refine jI_ite' (fun h => ?_) (fun h => ?_))
    | with_reducible exact jI_no
    | (with_reducible refine jI_all ?_)
    | (with_reducible refine jI_and ?_)
    | (with_reducible refine y_Reader_small_31 ?_)
    | (with_reducible refine y_Reader_small_30 ?_)
    | (with_reducible refine y_Reader_small_0 ?_)
set_option maxRecDepth 10000 in
theorem j_Reader_goesOn {I0 : Nat → Int32} {n1 : Nat} {f1 : Nat → Int32} {x1 : Int32} {x2 : Nat} {Z1 Z2 Z3 : Int32 → Unit → Prop} (hZ : ∀ r u, Z1 r u → Z2 r u → Z3 r u) : v_Reader_goesOn_0 I0 n1 f1 x1 x2 Z1 → v_Reader_goesOn_0 I0 n1 f1 x1 x2 Z2 → v_Reader_goesOn_0 I0 n1 f1 x1 x2 Z3 := by
  have lp2 : ∀ (N M : Nat) (cI0 : Nat → Int32) (cn1 : Nat) (cf1 : Nat → Int32) (cx1 : Int32) (cx2 : Nat) (cx3 : Int32), v_Reader_goesOn_2 cI0 cn1 cf1 cx1 cx2 Z1 N cx3 → v_Reader_goesOn_2 cI0 cn1 cf1 cx1 cx2 Z2 M cx3 → v_Reader_goesOn_2 cI0 cn1 cf1 cx1 cx2 Z3 N cx3 := by
    intro N; induction N with
    | zero => intro M cI0 cn1 cf1 cx1 cx2 cx3 h; exact h.elim
    | succ N ih =>
      intro M; cases M with
      | zero => intro cI0 cn1 cf1 cx1 cx2 cx3 _ h; exact h.elim
      | succ M =>
        intro cI0 cn1 cf1 cx1 cx2 cx3
        repeat' first
          | with_reducible exact ih _ _ _ _ _ _ _ 
          | (with_reducible refine j_Reader_small (fun r u => ?_))
          | (with_reducible refine j_S_charAt (fun r u => ?_))
          | (with_reducible refine j_S_length (fun r u => ?_))
          | with_reducible exact hZ _ _
          | (with_reducible refine jI_4 (fun h => ?_) (fun h => ?_) (fun h => ?_) (fun h => ?_))
          | (with_reducible refine jI_opt (fun h => ?_) (fun j h => ?_))
          | (with_reducible refine jI_ite (fun h => ?_) (fun h => ?_))
          | (with_reducible refine jI_ite' (fun h => ?_) (fun h => ?_))
          | with_reducible exact jI_no
          | (with_reducible refine jI_all ?_)
          | (with_reducible refine jI_and ?_)
          | (with_reducible refine y_Reader_goesOn_22 ?_)
          | (with_reducible refine y_Reader_goesOn_17 ?_)
          | (with_reducible refine y_Reader_goesOn_7 ?_)
          | (with_reducible refine y_Reader_goesOn_2 ?_)
          | (with_reducible refine y_Reader_goesOn_0 ?_)
  repeat' first
    | (with_reducible exact jI_ex (fun N M => lp2 N M _ _ _ _ _ _ ))
    | (with_reducible refine j_Reader_small (fun r u => ?_))
    | (with_reducible refine j_S_charAt (fun r u => ?_))
    | (with_reducible refine j_S_length (fun r u => ?_))
    | with_reducible exact hZ _ _
    | (with_reducible refine jI_4 (fun h => ?_) (fun h => ?_) (fun h => ?_) (fun h => ?_))
    | (with_reducible refine jI_opt (fun h => ?_) (fun j h => ?_))
    | (with_reducible refine jI_ite (fun h => ?_) (fun h => ?_))
    | (with_reducible refine jI_ite' (fun h => ?_) (fun h => ?_))
    | with_reducible exact jI_no
    | (with_reducible refine jI_all ?_)
    | (with_reducible refine jI_and ?_)
    | (with_reducible refine y_Reader_goesOn_22 ?_)
    | (with_reducible refine y_Reader_goesOn_17 ?_)
    | (with_reducible refine y_Reader_goesOn_7 ?_)
    | (with_reducible refine y_Reader_goesOn_2 ?_)
    | (with_reducible refine y_Reader_goesOn_0 ?_)
set_option maxRecDepth 10000 in
theorem j_Reader_rowLength {I0 : Nat → Int32} {n1 : Nat} {f1 : Nat → Int32} {x1 : Int32} {Z1 Z2 Z3 : Int32 → Unit → Prop} (hZ : ∀ r u, Z1 r u → Z2 r u → Z3 r u) : v_Reader_rowLength_0 I0 n1 f1 x1 Z1 → v_Reader_rowLength_0 I0 n1 f1 x1 Z2 → v_Reader_rowLength_0 I0 n1 f1 x1 Z3 := by
  have lp2 : ∀ (N M : Nat) (cI0 : Nat → Int32) (cn1 : Nat) (cf1 : Nat → Int32) (cx1 : Int32) (cx2 : Int32), v_Reader_rowLength_2 cI0 cn1 cf1 cx1 Z1 N cx2 → v_Reader_rowLength_2 cI0 cn1 cf1 cx1 Z2 M cx2 → v_Reader_rowLength_2 cI0 cn1 cf1 cx1 Z3 N cx2 := by
    intro N; induction N with
    | zero => intro M cI0 cn1 cf1 cx1 cx2 h; exact h.elim
    | succ N ih =>
      intro M; cases M with
      | zero => intro cI0 cn1 cf1 cx1 cx2 _ h; exact h.elim
      | succ M =>
        intro cI0 cn1 cf1 cx1 cx2
        repeat' first
          | with_reducible exact ih _ _ _ _ _ _ 
          | (with_reducible refine j_Reader_small (fun r u => ?_))
          | with_reducible exact hZ _ _
          | (with_reducible refine jI_4 (fun h => ?_) (fun h => ?_) (fun h => ?_) (fun h => ?_))
          | (with_reducible refine jI_opt (fun h => ?_) (fun j h => ?_))
          | (with_reducible refine jI_ite (fun h => ?_) (fun h => ?_))
          | (with_reducible refine jI_ite' (fun h => ?_) (fun h => ?_))
          | with_reducible exact jI_no
          | (with_reducible refine jI_all ?_)
          | (with_reducible refine jI_and ?_)
          | (with_reducible refine y_Reader_rowLength_20 ?_)
          | (with_reducible refine y_Reader_rowLength_15 ?_)
          | (with_reducible refine y_Reader_rowLength_2 ?_)
          | (with_reducible refine y_Reader_rowLength_0 ?_)
  repeat' first
    | (with_reducible exact jI_ex (fun N M => lp2 N M _ _ _ _ _ ))
    | (with_reducible refine j_Reader_small (fun r u => ?_))
    | with_reducible exact hZ _ _
    | (with_reducible refine jI_4 (fun h => ?_) (fun h => ?_) (fun h => ?_) (fun h => ?_))
    | (with_reducible refine jI_opt (fun h => ?_) (fun j h => ?_))
    | (with_reducible refine jI_ite (fun h => ?_) (fun h => ?_))
    | (with_reducible refine jI_ite' (fun h => ?_) (fun h => ?_))
    | with_reducible exact jI_no
    | (with_reducible refine jI_all ?_)
    | (with_reducible refine jI_and ?_)
    | (with_reducible refine y_Reader_rowLength_20 ?_)
    | (with_reducible refine y_Reader_rowLength_15 ?_)
    | (with_reducible refine y_Reader_rowLength_2 ?_)
    | (with_reducible refine y_Reader_rowLength_0 ?_)
set_option maxRecDepth 10000 in
theorem j_Reader_bracketRow {I0 : Nat → Int32} {n1 : Nat} {f1 : Nat → Int32} {x1 : Int32} {Z1 Z2 Z3 : Int32 → Unit → Prop} (hZ : ∀ r u, Z1 r u → Z2 r u → Z3 r u) : v_Reader_bracketRow_0 I0 n1 f1 x1 Z1 → v_Reader_bracketRow_0 I0 n1 f1 x1 Z2 → v_Reader_bracketRow_0 I0 n1 f1 x1 Z3 := by
  repeat' first
    | (with_reducible refine j_Reader_rowLength (fun r u => ?_))
    | (with_reducible refine j_Reader_sign (fun r u => ?_))
    | (with_reducible refine j_Reader_small (fun r u => ?_))
    | with_reducible exact hZ _ _
    | (with_reducible refine jI_4 (fun h => ?_) (fun h => ?_) (fun h => ?_) (fun h => ?_))
    | (with_reducible refine jI_opt (fun h => ?_) (fun j h => ?_))
    | (with_reducible refine jI_ite (fun h => ?_) (fun h => ?_))
    | (with_reducible refine jI_ite' (fun h => ?_) (fun h => ?_))
    | with_reducible exact jI_no
    | (with_reducible refine jI_all ?_)
    | (with_reducible refine jI_and ?_)
    | (with_reducible refine y_Reader_bracketRow_55 ?_)
    | (with_reducible refine y_Reader_bracketRow_45 ?_)
    | (with_reducible refine y_Reader_bracketRow_38 ?_)
    | (with_reducible refine y_Reader_bracketRow_13 ?_)
    | (with_reducible refine y_Reader_bracketRow_7 ?_)
    | (with_reducible refine y_Reader_bracketRow_0 ?_)
set_option maxRecDepth 10000 in
theorem j_Reader_halfDayLength {I0 : Nat → Int32} {n1 : Nat} {f1 : Nat → Int32} {x1 : Int32} {Z1 Z2 Z3 : Int32 → Unit → Prop} (hZ : ∀ r u, Z1 r u → Z2 r u → Z3 r u) : v_Reader_halfDayLength_0 I0 n1 f1 x1 Z1 → v_Reader_halfDayLength_0 I0 n1 f1 x1 Z2 → v_Reader_halfDayLength_0 I0 n1 f1 x1 Z3 := by
  repeat' first
    | (with_reducible refine j_Reader_goesOn (fun r u => ?_))
    | with_reducible exact hZ _ _
    | (with_reducible refine jI_4 (fun h => ?_) (fun h => ?_) (fun h => ?_) (fun h => ?_))
    | (with_reducible refine jI_opt (fun h => ?_) (fun j h => ?_))
    | (with_reducible refine jI_ite (fun h => ?_) (fun h => ?_))
    | (with_reducible refine jI_ite' (fun h => ?_) (fun h => ?_))
    | with_reducible exact jI_no
    | (with_reducible refine jI_all ?_)
    | (with_reducible refine jI_and ?_)
    | (with_reducible refine y_Reader_halfDayLength_21 ?_)
    | (with_reducible refine y_Reader_halfDayLength_8 ?_)
    | (with_reducible refine y_Reader_halfDayLength_0 ?_)
set_option maxRecDepth 10000 in
theorem j_Reader_kindMadeAt {I0 : Nat → Int32} {n1 : Nat} {f1 : Nat → Int32} {x1 : Int32} {Z1 Z2 Z3 : Int32 → Unit → Prop} (hZ : ∀ r u, Z1 r u → Z2 r u → Z3 r u) : v_Reader_kindMadeAt_0 I0 n1 f1 x1 Z1 → v_Reader_kindMadeAt_0 I0 n1 f1 x1 Z2 → v_Reader_kindMadeAt_0 I0 n1 f1 x1 Z3 := by
  repeat' first
    | (with_reducible refine j_Reader_bracketRow (fun r u => ?_))
    | (with_reducible refine j_Reader_halfDayLength (fun r u => ?_))
    | (with_reducible refine j_Reader_isDateLetter (fun r u => ?_))
    | (with_reducible refine j_Reader_isPlace (fun r u => ?_))
    | (with_reducible refine j_Reader_small (fun r u => ?_))
    | with_reducible exact hZ _ _
    | (with_reducible refine jI_4 (fun h => ?_) (fun h => ?_) (fun h => ?_) (fun h => ?_))
    | (with_reducible refine jI_opt (fun h => ?_) (fun j h => ?_))
    | (with_reducible refine jI_ite (fun h => ?_) (fun h => ?_))
    | (with_reducible refine jI_ite' (fun h => ?_) (fun h => ?_))
    | with_reducible exact jI_no
    | (with_reducible refine jI_all ?_)
    | (with_reducible refine jI_and ?_)
    | (with_reducible refine y_Reader_kindMadeAt_52 ?_)
    | (with_reducible refine y_Reader_kindMadeAt_47 ?_)
    | (with_reducible refine y_Reader_kindMadeAt_44 ?_)
    | (with_reducible refine y_Reader_kindMadeAt_36 ?_)
    | (with_reducible refine y_Reader_kindMadeAt_28 ?_)
    | (with_reducible refine y_Reader_kindMadeAt_10 ?_)
    | (with_reducible refine y_Reader_kindMadeAt_5 ?_)
    | (with_reducible refine y_Reader_kindMadeAt_0 ?_)
set_option maxRecDepth 10000 in
theorem j_Reader_quotesLength {I0 : Nat → Int32} {n1 : Nat} {f1 : Nat → Int32} {x1 : Int32} {Z1 Z2 Z3 : Int32 → Unit → Prop} (hZ : ∀ r u, Z1 r u → Z2 r u → Z3 r u) : v_Reader_quotesLength_0 I0 n1 f1 x1 Z1 → v_Reader_quotesLength_0 I0 n1 f1 x1 Z2 → v_Reader_quotesLength_0 I0 n1 f1 x1 Z3 := by
  have lp4 : ∀ (N M : Nat) (cI0 : Nat → Int32) (cn1 : Nat) (cf1 : Nat → Int32) (cx1 : Int32) (cx2 : Int32), v_Reader_quotesLength_4 cI0 cn1 cf1 cx1 Z1 N cx2 → v_Reader_quotesLength_4 cI0 cn1 cf1 cx1 Z2 M cx2 → v_Reader_quotesLength_4 cI0 cn1 cf1 cx1 Z3 N cx2 := by
    intro N; induction N with
    | zero => intro M cI0 cn1 cf1 cx1 cx2 h; exact h.elim
    | succ N ih =>
      intro M; cases M with
      | zero => intro cI0 cn1 cf1 cx1 cx2 _ h; exact h.elim
      | succ M =>
        intro cI0 cn1 cf1 cx1 cx2
        repeat' first
          | with_reducible exact ih _ _ _ _ _ _ 
          | (with_reducible refine j_Reader_sign (fun r u => ?_))
          | with_reducible exact hZ _ _
          | (with_reducible refine jI_4 (fun h => ?_) (fun h => ?_) (fun h => ?_) (fun h => ?_))
          | (with_reducible refine jI_opt (fun h => ?_) (fun j h => ?_))
          | (with_reducible refine jI_ite (fun h => ?_) (fun h => ?_))
          | (with_reducible refine jI_ite' (fun h => ?_) (fun h => ?_))
          | with_reducible exact jI_no
          | (with_reducible refine jI_all ?_)
          | (with_reducible refine jI_and ?_)
          | (with_reducible refine y_Reader_quotesLength_17 ?_)
          | (with_reducible refine y_Reader_quotesLength_4 ?_)
          | (with_reducible refine y_Reader_quotesLength_0 ?_)
  repeat' first
    | (with_reducible exact jI_ex (fun N M => lp4 N M _ _ _ _ _ ))
    | (with_reducible refine j_Reader_sign (fun r u => ?_))
    | with_reducible exact hZ _ _
    | (with_reducible refine jI_4 (fun h => ?_) (fun h => ?_) (fun h => ?_) (fun h => ?_))
    | (with_reducible refine jI_opt (fun h => ?_) (fun j h => ?_))
    | (with_reducible refine jI_ite (fun h => ?_) (fun h => ?_))
    | (with_reducible refine jI_ite' (fun h => ?_) (fun h => ?_))
    | with_reducible exact jI_no
    | (with_reducible refine jI_all ?_)
    | (with_reducible refine jI_and ?_)
    | (with_reducible refine y_Reader_quotesLength_17 ?_)
    | (with_reducible refine y_Reader_quotesLength_4 ?_)
    | (with_reducible refine y_Reader_quotesLength_0 ?_)
set_option maxRecDepth 10000 in
theorem j_Reader_colourLength {I0 : Nat → Int32} {n1 : Nat} {f1 : Nat → Int32} {x1 : Int32} {Z1 Z2 Z3 : Int32 → Unit → Prop} (hZ : ∀ r u, Z1 r u → Z2 r u → Z3 r u) : v_Reader_colourLength_0 I0 n1 f1 x1 Z1 → v_Reader_colourLength_0 I0 n1 f1 x1 Z2 → v_Reader_colourLength_0 I0 n1 f1 x1 Z3 := by
  have lp2 : ∀ (N M : Nat) (cI0 : Nat → Int32) (cn1 : Nat) (cf1 : Nat → Int32) (cx1 : Int32) (cx2 : Int32), v_Reader_colourLength_2 cI0 cn1 cf1 cx1 Z1 N cx2 → v_Reader_colourLength_2 cI0 cn1 cf1 cx1 Z2 M cx2 → v_Reader_colourLength_2 cI0 cn1 cf1 cx1 Z3 N cx2 := by
    intro N; induction N with
    | zero => intro M cI0 cn1 cf1 cx1 cx2 h; exact h.elim
    | succ N ih =>
      intro M; cases M with
      | zero => intro cI0 cn1 cf1 cx1 cx2 _ h; exact h.elim
      | succ M =>
        intro cI0 cn1 cf1 cx1 cx2
        repeat' first
          | with_reducible exact ih _ _ _ _ _ _ 
          | (with_reducible refine j_Reader_colour (fun r u => ?_))
          | (with_reducible refine j_Reader_goesOn (fun r u => ?_))
          | (with_reducible refine j_S_length (fun r u => ?_))
          | with_reducible exact hZ _ _
          | (with_reducible refine jI_4 (fun h => ?_) (fun h => ?_) (fun h => ?_) (fun h => ?_))
          | (with_reducible refine jI_opt (fun h => ?_) (fun j h => ?_))
          | (with_reducible refine jI_ite (fun h => ?_) (fun h => ?_))
          | (with_reducible refine jI_ite' (fun h => ?_) (fun h => ?_))
          | with_reducible exact jI_no
          | (with_reducible refine jI_all ?_)
          | (with_reducible refine jI_and ?_)
          | (with_reducible refine y_Reader_colourLength_26 ?_)
          | (with_reducible refine y_Reader_colourLength_19 ?_)
          | (with_reducible refine y_Reader_colourLength_12 ?_)
          | (with_reducible refine y_Reader_colourLength_2 ?_)
          | (with_reducible refine y_Reader_colourLength_0 ?_)
  repeat' first
    | (with_reducible exact jI_ex (fun N M => lp2 N M _ _ _ _ _ ))
    | (with_reducible refine j_Reader_colour (fun r u => ?_))
    | (with_reducible refine j_Reader_goesOn (fun r u => ?_))
    | (with_reducible refine j_S_length (fun r u => ?_))
    | with_reducible exact hZ _ _
    | (with_reducible refine jI_4 (fun h => ?_) (fun h => ?_) (fun h => ?_) (fun h => ?_))
    | (with_reducible refine jI_opt (fun h => ?_) (fun j h => ?_))
    | (with_reducible refine jI_ite (fun h => ?_) (fun h => ?_))
    | (with_reducible refine jI_ite' (fun h => ?_) (fun h => ?_))
    | with_reducible exact jI_no
    | (with_reducible refine jI_all ?_)
    | (with_reducible refine jI_and ?_)
    | (with_reducible refine y_Reader_colourLength_26 ?_)
    | (with_reducible refine y_Reader_colourLength_19 ?_)
    | (with_reducible refine y_Reader_colourLength_12 ?_)
    | (with_reducible refine y_Reader_colourLength_2 ?_)
    | (with_reducible refine y_Reader_colourLength_0 ?_)
set_option maxRecDepth 10000 in
theorem j_Reader_commonLength {I0 : Nat → Int32} {n1 : Nat} {f1 : Nat → Int32} {x1 : Int32} {Z1 Z2 Z3 : Int32 → Unit → Prop} (hZ : ∀ r u, Z1 r u → Z2 r u → Z3 r u) : v_Reader_commonLength_0 I0 n1 f1 x1 Z1 → v_Reader_commonLength_0 I0 n1 f1 x1 Z2 → v_Reader_commonLength_0 I0 n1 f1 x1 Z3 := by
  repeat' first
    | (with_reducible refine j_Reader_colourLength (fun r u => ?_))
    | (with_reducible refine j_Reader_isOwnLiteral (fun r u => ?_))
    | (with_reducible refine j_Reader_quotesLength (fun r u => ?_))
    | (with_reducible refine j_Reader_sign (fun r u => ?_))
    | with_reducible exact hZ _ _
    | (with_reducible refine jI_4 (fun h => ?_) (fun h => ?_) (fun h => ?_) (fun h => ?_))
    | (with_reducible refine jI_opt (fun h => ?_) (fun j h => ?_))
    | (with_reducible refine jI_ite (fun h => ?_) (fun h => ?_))
    | (with_reducible refine jI_ite' (fun h => ?_) (fun h => ?_))
    | with_reducible exact jI_no
    | (with_reducible refine jI_all ?_)
    | (with_reducible refine jI_and ?_)
    | (with_reducible refine y_Reader_commonLength_61 ?_)
    | (with_reducible refine y_Reader_commonLength_83 ?_)
    | (with_reducible refine y_Reader_commonLength_88 ?_)
    | (with_reducible refine y_Reader_commonLength_5 ?_)
    | (with_reducible refine y_Reader_commonLength_0 ?_)
set_option maxRecDepth 10000 in
theorem j_Reader_sectionEnd {I0 : Nat → Int32} {n1 : Nat} {f1 : Nat → Int32} {x1 : Int32} {Z1 Z2 Z3 : Int32 → Unit → Prop} (hZ : ∀ r u, Z1 r u → Z2 r u → Z3 r u) : v_Reader_sectionEnd_0 I0 n1 f1 x1 Z1 → v_Reader_sectionEnd_0 I0 n1 f1 x1 Z2 → v_Reader_sectionEnd_0 I0 n1 f1 x1 Z3 := by
  have lp2 : ∀ (N M : Nat) (cI0 : Nat → Int32) (cn1 : Nat) (cf1 : Nat → Int32) (cx2 : Int32), v_Reader_sectionEnd_2 cI0 cn1 cf1 Z1 N cx2 → v_Reader_sectionEnd_2 cI0 cn1 cf1 Z2 M cx2 → v_Reader_sectionEnd_2 cI0 cn1 cf1 Z3 N cx2 := by
    intro N; induction N with
    | zero => intro M cI0 cn1 cf1 cx2 h; exact h.elim
    | succ N ih =>
      intro M; cases M with
      | zero => intro cI0 cn1 cf1 cx2 _ h; exact h.elim
      | succ M =>
        intro cI0 cn1 cf1 cx2
        repeat' first
          | with_reducible exact ih _ _ _ _ _ 
          | (with_reducible refine j_Reader_commonLength (fun r u => ?_))
          | (with_reducible refine j_Reader_sign (fun r u => ?_))
          | with_reducible exact hZ _ _
          | (with_reducible refine jI_4 (fun h => ?_) (fun h => ?_) (fun h => ?_) (fun h => ?_))
          | (with_reducible refine jI_opt (fun h => ?_) (fun j h => ?_))
          | (with_reducible refine jI_ite (fun h => ?_) (fun h => ?_))
          | (with_reducible refine jI_ite' (fun h => ?_) (fun h => ?_))
          | with_reducible exact jI_no
          | (with_reducible refine jI_all ?_)
          | (with_reducible refine jI_and ?_)
          | (with_reducible refine y_Reader_sectionEnd_29 ?_)
          | (with_reducible refine y_Reader_sectionEnd_15 ?_)
          | (with_reducible refine y_Reader_sectionEnd_2 ?_)
          | (with_reducible refine y_Reader_sectionEnd_0 ?_)
  repeat' first
    | (with_reducible exact jI_ex (fun N M => lp2 N M _ _ _ _ ))
    | (with_reducible refine j_Reader_commonLength (fun r u => ?_))
    | (with_reducible refine j_Reader_sign (fun r u => ?_))
    | with_reducible exact hZ _ _
    | (with_reducible refine jI_4 (fun h => ?_) (fun h => ?_) (fun h => ?_) (fun h => ?_))
    | (with_reducible refine jI_opt (fun h => ?_) (fun j h => ?_))
    | (with_reducible refine jI_ite (fun h => ?_) (fun h => ?_))
    | (with_reducible refine jI_ite' (fun h => ?_) (fun h => ?_))
    | with_reducible exact jI_no
    | (with_reducible refine jI_all ?_)
    | (with_reducible refine jI_and ?_)
    | (with_reducible refine y_Reader_sectionEnd_29 ?_)
    | (with_reducible refine y_Reader_sectionEnd_15 ?_)
    | (with_reducible refine y_Reader_sectionEnd_2 ?_)
    | (with_reducible refine y_Reader_sectionEnd_0 ?_)
set_option maxRecDepth 10000 in
theorem j_Reader_findKind {I0 : Nat → Int32} {I1 : Nat → Int32} {n2 : Nat} {f2 : Nat → Int32} {x1 : Int32} {x2 : Int32} {Z1 Z2 Z3 : (Nat → Int32) × (Nat → Int32) → Prop} (hZ : ∀ u, Z1 u → Z2 u → Z3 u) : v_Reader_findKind_0 I0 I1 n2 f2 x1 x2 Z1 → v_Reader_findKind_0 I0 I1 n2 f2 x1 x2 Z2 → v_Reader_findKind_0 I0 I1 n2 f2 x1 x2 Z3 := by
  have lp15 : ∀ (N M : Nat) (cn2 : Nat) (cf2 : Nat → Int32) (cx2 : Int32) (cI0 : (Nat → Int32)) (cI1 : (Nat → Int32)) (cx3 : Int32), v_Reader_findKind_15 cn2 cf2 cx2 Z1 N cI0 cI1 cx3 → v_Reader_findKind_15 cn2 cf2 cx2 Z2 M cI0 cI1 cx3 → v_Reader_findKind_15 cn2 cf2 cx2 Z3 N cI0 cI1 cx3 := by
    intro N; induction N with
    | zero => intro M cn2 cf2 cx2 cI0 cI1 cx3 h; exact h.elim
    | succ N ih =>
      intro M; cases M with
      | zero => intro cn2 cf2 cx2 cI0 cI1 cx3 _ h; exact h.elim
      | succ M =>
        intro cn2 cf2 cx2 cI0 cI1 cx3
        repeat' first
          | with_reducible exact ih _ _ _ _ _ _ _ 
          | (with_reducible refine j_Reader_commonLength (fun r u => ?_))
          | (with_reducible refine j_Reader_kindMadeAt (fun r u => ?_))
          | with_reducible exact hZ _
          | (with_reducible refine jI_4 (fun h => ?_) (fun h => ?_) (fun h => ?_) (fun h => ?_))
          | (with_reducible refine jI_opt (fun h => ?_) (fun j h => ?_))
          | (with_reducible refine jI_ite (fun h => ?_) (fun h => ?_))
          | (with_reducible refine jI_ite' (fun h => ?_) (fun h => ?_))
          | with_reducible exact jI_no
          | (with_reducible refine jI_all ?_)
          | (with_reducible refine jI_and ?_)
          | (with_reducible refine y_Reader_findKind_60 ?_)
          | (with_reducible refine y_Reader_findKind_37 ?_)
          | (with_reducible refine y_Reader_findKind_25 ?_)
          | (with_reducible refine y_Reader_findKind_15 ?_)
          | (with_reducible refine y_Reader_findKind_0 ?_)
  repeat' first
    | (with_reducible exact jI_ex (fun N M => lp15 N M _ _ _ _ _ _ ))
    | (with_reducible refine j_Reader_commonLength (fun r u => ?_))
    | (with_reducible refine j_Reader_kindMadeAt (fun r u => ?_))
    | with_reducible exact hZ _
    | (with_reducible refine jI_4 (fun h => ?_) (fun h => ?_) (fun h => ?_) (fun h => ?_))
    | (with_reducible refine jI_opt (fun h => ?_) (fun j h => ?_))
    | (with_reducible refine jI_ite (fun h => ?_) (fun h => ?_))
    | (with_reducible refine jI_ite' (fun h => ?_) (fun h => ?_))
    | with_reducible exact jI_no
    | (with_reducible refine jI_all ?_)
    | (with_reducible refine jI_and ?_)
    | (with_reducible refine y_Reader_findKind_60 ?_)
    | (with_reducible refine y_Reader_findKind_37 ?_)
    | (with_reducible refine y_Reader_findKind_25 ?_)
    | (with_reducible refine y_Reader_findKind_15 ?_)
    | (with_reducible refine y_Reader_findKind_0 ?_)
set_option maxRecDepth 10000 in
theorem j_Reader_addOne {I0 : Nat → Int32} {I1 : Nat → Int32} {n2 : Nat} {f2 : Nat → Int32} {n3 : Nat} {f3 : Nat → Int32} {x1 : Int32} {x2 : Int32} {Z1 Z2 Z3 : Int32 → (Nat → Int32) × (Nat → Int32) × (Nat → Int32) → Prop} (hZ : ∀ r u, Z1 r u → Z2 r u → Z3 r u) : v_Reader_addOne_0 I0 I1 n2 f2 n3 f3 x1 x2 Z1 → v_Reader_addOne_0 I0 I1 n2 f2 n3 f3 x1 x2 Z2 → v_Reader_addOne_0 I0 I1 n2 f2 n3 f3 x1 x2 Z3 := by
  repeat' first
    | (with_reducible refine j_Code_add (fun u => ?_))
    | with_reducible exact hZ _ _
    | (with_reducible refine jI_4 (fun h => ?_) (fun h => ?_) (fun h => ?_) (fun h => ?_))
    | (with_reducible refine jI_opt (fun h => ?_) (fun j h => ?_))
    | (with_reducible refine jI_ite (fun h => ?_) (fun h => ?_))
    | (with_reducible refine jI_ite' (fun h => ?_) (fun h => ?_))
    | with_reducible exact jI_no
    | (with_reducible refine jI_all ?_)
    | (with_reducible refine jI_and ?_)
    | (with_reducible refine y_Reader_addOne_9 ?_)
    | (with_reducible refine y_Reader_addOne_0 ?_)
set_option maxRecDepth 10000 in
theorem j_Reader_addRow {I0 : Nat → Int32} {I1 : Nat → Int32} {n2 : Nat} {f2 : Nat → Int32} {n3 : Nat} {f3 : Nat → Int32} {x1 : Int32} {x2 : Int32} {Z1 Z2 Z3 : Int32 → (Nat → Int32) × (Nat → Int32) × (Nat → Int32) → Prop} (hZ : ∀ r u, Z1 r u → Z2 r u → Z3 r u) : v_Reader_addRow_0 I0 I1 n2 f2 n3 f3 x1 x2 Z1 → v_Reader_addRow_0 I0 I1 n2 f2 n3 f3 x1 x2 Z2 → v_Reader_addRow_0 I0 I1 n2 f2 n3 f3 x1 x2 Z3 := by
  repeat' first
    | (with_reducible refine j_Code_add (fun u => ?_))
    | with_reducible exact hZ _ _
    | (with_reducible refine jI_4 (fun h => ?_) (fun h => ?_) (fun h => ?_) (fun h => ?_))
    | (with_reducible refine jI_opt (fun h => ?_) (fun j h => ?_))
    | (with_reducible refine jI_ite (fun h => ?_) (fun h => ?_))
    | (with_reducible refine jI_ite' (fun h => ?_) (fun h => ?_))
    | with_reducible exact jI_no
    | (with_reducible refine jI_all ?_)
    | (with_reducible refine jI_and ?_)
    | (with_reducible refine y_Reader_addRow_9 ?_)
    | (with_reducible refine y_Reader_addRow_0 ?_)
set_option maxRecDepth 10000 in
theorem j_Reader_readSign {I0 : Nat → Int32} {n1 : Nat} {f1 : Nat → Int32} {I2 : Nat → Int32} {n3 : Nat} {f3 : Nat → Int32} {n4 : Nat} {f4 : Nat → Int32} {x1 : Int32} {Z1 Z2 Z3 : Int32 → (Nat → Int32) × (Nat → Int32) × (Nat → Int32) → Prop} (hZ : ∀ r u, Z1 r u → Z2 r u → Z3 r u) : v_Reader_readSign_0 I0 n1 f1 I2 n3 f3 n4 f4 x1 Z1 → v_Reader_readSign_0 I0 n1 f1 I2 n3 f3 n4 f4 x1 Z2 → v_Reader_readSign_0 I0 n1 f1 I2 n3 f3 n4 f4 x1 Z3 := by
  repeat' first
    | (with_reducible refine j_Reader_addOne (fun r u => ?_))
    | (with_reducible refine j_Reader_sign (fun r u => ?_))
    | with_reducible exact hZ _ _
    | (with_reducible refine jI_4 (fun h => ?_) (fun h => ?_) (fun h => ?_) (fun h => ?_))
    | (with_reducible refine jI_opt (fun h => ?_) (fun j h => ?_))
    | (with_reducible refine jI_ite (fun h => ?_) (fun h => ?_))
    | (with_reducible refine jI_ite' (fun h => ?_) (fun h => ?_))
    | with_reducible exact jI_no
    | (with_reducible refine jI_all ?_)
    | (with_reducible refine jI_and ?_)
    | (with_reducible refine y_Reader_readSign_46 ?_)
    | (with_reducible refine y_Reader_readSign_35 ?_)
    | (with_reducible refine y_Reader_readSign_30 ?_)
    | (with_reducible refine y_Reader_readSign_5 ?_)
    | (with_reducible refine y_Reader_readSign_0 ?_)
set_option maxRecDepth 10000 in
theorem j_Reader_readPlace {I0 : Nat → Int32} {I1 : Nat → Int32} {I2 : Nat → Int32} {n3 : Nat} {f3 : Nat → Int32} {n4 : Nat} {f4 : Nat → Int32} {x1 : Int32} {Z1 Z2 Z3 : Int32 → (Nat → Int32) × (Nat → Int32) × (Nat → Int32) × (Nat → Int32) → Prop} (hZ : ∀ r u, Z1 r u → Z2 r u → Z3 r u) : v_Reader_readPlace_0 I0 I1 I2 n3 f3 n4 f4 x1 Z1 → v_Reader_readPlace_0 I0 I1 I2 n3 f3 n4 f4 x1 Z2 → v_Reader_readPlace_0 I0 I1 I2 n3 f3 n4 f4 x1 Z3 := by
  repeat' first
    | (with_reducible refine j_Reader_addOne (fun r u => ?_))
    | with_reducible exact hZ _ _
    | (with_reducible refine jI_4 (fun h => ?_) (fun h => ?_) (fun h => ?_) (fun h => ?_))
    | (with_reducible refine jI_opt (fun h => ?_) (fun j h => ?_))
    | (with_reducible refine jI_ite (fun h => ?_) (fun h => ?_))
    | (with_reducible refine jI_ite' (fun h => ?_) (fun h => ?_))
    | with_reducible exact jI_no
    | (with_reducible refine jI_all ?_)
    | (with_reducible refine jI_and ?_)
    | (with_reducible refine y_Reader_readPlace_29 ?_)
    | (with_reducible refine y_Reader_readPlace_61 ?_)
    | (with_reducible refine y_Reader_readPlace_0 ?_)
set_option maxRecDepth 10000 in
theorem j_Reader_readPoint {I0 : Nat → Int32} {I1 : Nat → Int32} {I2 : Nat → Int32} {n3 : Nat} {f3 : Nat → Int32} {n4 : Nat} {f4 : Nat → Int32} {Z1 Z2 Z3 : Int32 → (Nat → Int32) × (Nat → Int32) × (Nat → Int32) × (Nat → Int32) → Prop} (hZ : ∀ r u, Z1 r u → Z2 r u → Z3 r u) : v_Reader_readPoint_0 I0 I1 I2 n3 f3 n4 f4 Z1 → v_Reader_readPoint_0 I0 I1 I2 n3 f3 n4 f4 Z2 → v_Reader_readPoint_0 I0 I1 I2 n3 f3 n4 f4 Z3 := by
  repeat' first
    | (with_reducible refine j_Reader_addOne (fun r u => ?_))
    | with_reducible exact hZ _ _
    | (with_reducible refine jI_4 (fun h => ?_) (fun h => ?_) (fun h => ?_) (fun h => ?_))
    | (with_reducible refine jI_opt (fun h => ?_) (fun j h => ?_))
    | (with_reducible refine jI_ite (fun h => ?_) (fun h => ?_))
    | (with_reducible refine jI_ite' (fun h => ?_) (fun h => ?_))
    | with_reducible exact jI_no
    | (with_reducible refine jI_all ?_)
    | (with_reducible refine jI_and ?_)
    | (with_reducible refine y_Reader_readPoint_27 ?_)
    | (with_reducible refine y_Reader_readPoint_0 ?_)
set_option maxRecDepth 10000 in
theorem j_Reader_kindBefore {I0 : Nat → Int32} {I1 : Nat → Int32} {I2 : Nat → Int32} {n3 : Nat} {f3 : Nat → Int32} {Z1 Z2 Z3 : Int32 → Unit → Prop} (hZ : ∀ r u, Z1 r u → Z2 r u → Z3 r u) : v_Reader_kindBefore_0 I0 I1 I2 n3 f3 Z1 → v_Reader_kindBefore_0 I0 I1 I2 n3 f3 Z2 → v_Reader_kindBefore_0 I0 I1 I2 n3 f3 Z3 := by
  repeat' first
    | (with_reducible refine j_Code_kind (fun r u => ?_))
    | with_reducible exact hZ _ _
    | (with_reducible refine jI_4 (fun h => ?_) (fun h => ?_) (fun h => ?_) (fun h => ?_))
    | (with_reducible refine jI_opt (fun h => ?_) (fun j h => ?_))
    | (with_reducible refine jI_ite (fun h => ?_) (fun h => ?_))
    | (with_reducible refine jI_ite' (fun h => ?_) (fun h => ?_))
    | with_reducible exact jI_no
    | (with_reducible refine jI_all ?_)
    | (with_reducible refine jI_and ?_)
    | (with_reducible refine y_Reader_kindBefore_29 ?_)
    | (with_reducible refine y_Reader_kindBefore_0 ?_)
set_option maxRecDepth 10000 in
theorem j_Reader_readComma {I0 : Nat → Int32} {I1 : Nat → Int32} {I2 : Nat → Int32} {n3 : Nat} {f3 : Nat → Int32} {n4 : Nat} {f4 : Nat → Int32} {n5 : Nat} {f5 : Nat → Int32} {x1 : Int32} {Z1 Z2 Z3 : Int32 → (Nat → Int32) × (Nat → Int32) × (Nat → Int32) × (Nat → Int32) → Prop} (hZ : ∀ r u, Z1 r u → Z2 r u → Z3 r u) : v_Reader_readComma_0 I0 I1 I2 n3 f3 n4 f4 n5 f5 x1 Z1 → v_Reader_readComma_0 I0 I1 I2 n3 f3 n4 f4 n5 f5 x1 Z2 → v_Reader_readComma_0 I0 I1 I2 n3 f3 n4 f4 n5 f5 x1 Z3 := by
  repeat' first
    | (with_reducible refine j_Reader_addOne (fun r u => ?_))
    | (with_reducible refine j_Reader_isPlace (fun r u => ?_))
    | (with_reducible refine j_Reader_kindBefore (fun r u => ?_))
    | (with_reducible refine j_Reader_sign (fun r u => ?_))
    | with_reducible exact hZ _ _
    | (with_reducible refine jI_4 (fun h => ?_) (fun h => ?_) (fun h => ?_) (fun h => ?_))
    | (with_reducible refine jI_opt (fun h => ?_) (fun j h => ?_))
    | (with_reducible refine jI_ite (fun h => ?_) (fun h => ?_))
    | (with_reducible refine jI_ite' (fun h => ?_) (fun h => ?_))
    | with_reducible exact jI_no
    | (with_reducible refine jI_all ?_)
    | (with_reducible refine jI_and ?_)
    | (with_reducible refine y_Reader_readComma_38 ?_)
    | (with_reducible refine y_Reader_readComma_71 ?_)
    | (with_reducible refine y_Reader_readComma_50 ?_)
    | (with_reducible refine y_Reader_readComma_39 ?_)
    | (with_reducible refine y_Reader_readComma_20 ?_)
    | (with_reducible refine y_Reader_readComma_17 ?_)
    | (with_reducible refine y_Reader_readComma_4 ?_)
    | (with_reducible refine y_Reader_readComma_0 ?_)
set_option maxRecDepth 10000 in
theorem j_Reader_placesFrom {I0 : Nat → Int32} {n1 : Nat} {f1 : Nat → Int32} {x1 : Int32} {Z1 Z2 Z3 : Int32 → Unit → Prop} (hZ : ∀ r u, Z1 r u → Z2 r u → Z3 r u) : v_Reader_placesFrom_0 I0 n1 f1 x1 Z1 → v_Reader_placesFrom_0 I0 n1 f1 x1 Z2 → v_Reader_placesFrom_0 I0 n1 f1 x1 Z3 := by
  have lp2 : ∀ (N M : Nat) (cI0 : Nat → Int32) (cn1 : Nat) (cf1 : Nat → Int32) (cx1 : Int32) (cx2 : Int32), v_Reader_placesFrom_2 cI0 cn1 cf1 cx1 Z1 N cx2 → v_Reader_placesFrom_2 cI0 cn1 cf1 cx1 Z2 M cx2 → v_Reader_placesFrom_2 cI0 cn1 cf1 cx1 Z3 N cx2 := by
    intro N; induction N with
    | zero => intro M cI0 cn1 cf1 cx1 cx2 h; exact h.elim
    | succ N ih =>
      intro M; cases M with
      | zero => intro cI0 cn1 cf1 cx1 cx2 _ h; exact h.elim
      | succ M =>
        intro cI0 cn1 cf1 cx1 cx2
        repeat' first
          | with_reducible exact ih _ _ _ _ _ _ 
          | (with_reducible refine j_Reader_isPlace (fun r u => ?_))
          | (with_reducible refine j_Reader_sign (fun r u => ?_))
          | with_reducible exact hZ _ _
          | (with_reducible refine jI_4 (fun h => ?_) (fun h => ?_) (fun h => ?_) (fun h => ?_))
          | (with_reducible refine jI_opt (fun h => ?_) (fun j h => ?_))
          | (with_reducible refine jI_ite (fun h => ?_) (fun h => ?_))
          | (with_reducible refine jI_ite' (fun h => ?_) (fun h => ?_))
          | with_reducible exact jI_no
          | (with_reducible refine jI_all ?_)
          | (with_reducible refine jI_and ?_)
          | (with_reducible refine y_Reader_placesFrom_17 ?_)
          | (with_reducible refine y_Reader_placesFrom_14 ?_)
          | (with_reducible refine y_Reader_placesFrom_2 ?_)
          | (with_reducible refine y_Reader_placesFrom_0 ?_)
  repeat' first
    | (with_reducible exact jI_ex (fun N M => lp2 N M _ _ _ _ _ ))
    | (with_reducible refine j_Reader_isPlace (fun r u => ?_))
    | (with_reducible refine j_Reader_sign (fun r u => ?_))
    | with_reducible exact hZ _ _
    | (with_reducible refine jI_4 (fun h => ?_) (fun h => ?_) (fun h => ?_) (fun h => ?_))
    | (with_reducible refine jI_opt (fun h => ?_) (fun j h => ?_))
    | (with_reducible refine jI_ite (fun h => ?_) (fun h => ?_))
    | (with_reducible refine jI_ite' (fun h => ?_) (fun h => ?_))
    | with_reducible exact jI_no
    | (with_reducible refine jI_all ?_)
    | (with_reducible refine jI_and ?_)
    | (with_reducible refine y_Reader_placesFrom_17 ?_)
    | (with_reducible refine y_Reader_placesFrom_14 ?_)
    | (with_reducible refine y_Reader_placesFrom_2 ?_)
    | (with_reducible refine y_Reader_placesFrom_0 ?_)
set_option maxRecDepth 10000 in
theorem j_Reader_digitsFrom {I0 : Nat → Int32} {n1 : Nat} {f1 : Nat → Int32} {x1 : Int32} {Z1 Z2 Z3 : Int32 → Unit → Prop} (hZ : ∀ r u, Z1 r u → Z2 r u → Z3 r u) : v_Reader_digitsFrom_0 I0 n1 f1 x1 Z1 → v_Reader_digitsFrom_0 I0 n1 f1 x1 Z2 → v_Reader_digitsFrom_0 I0 n1 f1 x1 Z3 := by
  have lp2 : ∀ (N M : Nat) (cI0 : Nat → Int32) (cn1 : Nat) (cf1 : Nat → Int32) (cx1 : Int32) (cx2 : Int32), v_Reader_digitsFrom_2 cI0 cn1 cf1 cx1 Z1 N cx2 → v_Reader_digitsFrom_2 cI0 cn1 cf1 cx1 Z2 M cx2 → v_Reader_digitsFrom_2 cI0 cn1 cf1 cx1 Z3 N cx2 := by
    intro N; induction N with
    | zero => intro M cI0 cn1 cf1 cx1 cx2 h; exact h.elim
    | succ N ih =>
      intro M; cases M with
      | zero => intro cI0 cn1 cf1 cx1 cx2 _ h; exact h.elim
      | succ M =>
        intro cI0 cn1 cf1 cx1 cx2
        repeat' first
          | with_reducible exact ih _ _ _ _ _ _ 
          | (with_reducible refine j_Reader_isDigit (fun r u => ?_))
          | (with_reducible refine j_Reader_sign (fun r u => ?_))
          | with_reducible exact hZ _ _
          | (with_reducible refine jI_4 (fun h => ?_) (fun h => ?_) (fun h => ?_) (fun h => ?_))
          | (with_reducible refine jI_opt (fun h => ?_) (fun j h => ?_))
          | (with_reducible refine jI_ite (fun h => ?_) (fun h => ?_))
          | (with_reducible refine jI_ite' (fun h => ?_) (fun h => ?_))
          | with_reducible exact jI_no
          | (with_reducible refine jI_all ?_)
          | (with_reducible refine jI_and ?_)
          | (with_reducible refine y_Reader_digitsFrom_25 ?_)
          | (with_reducible refine y_Reader_digitsFrom_17 ?_)
          | (with_reducible refine y_Reader_digitsFrom_14 ?_)
          | (with_reducible refine y_Reader_digitsFrom_2 ?_)
          | (with_reducible refine y_Reader_digitsFrom_0 ?_)
  repeat' first
    | (with_reducible exact jI_ex (fun N M => lp2 N M _ _ _ _ _ ))
    | (with_reducible refine j_Reader_isDigit (fun r u => ?_))
    | (with_reducible refine j_Reader_sign (fun r u => ?_))
    | with_reducible exact hZ _ _
    | (with_reducible refine jI_4 (fun h => ?_) (fun h => ?_) (fun h => ?_) (fun h => ?_))
    | (with_reducible refine jI_opt (fun h => ?_) (fun j h => ?_))
    | (with_reducible refine jI_ite (fun h => ?_) (fun h => ?_))
    | (with_reducible refine jI_ite' (fun h => ?_) (fun h => ?_))
    | with_reducible exact jI_no
    | (with_reducible refine jI_all ?_)
    | (with_reducible refine jI_and ?_)
    | (with_reducible refine y_Reader_digitsFrom_25 ?_)
    | (with_reducible refine y_Reader_digitsFrom_17 ?_)
    | (with_reducible refine y_Reader_digitsFrom_14 ?_)
    | (with_reducible refine y_Reader_digitsFrom_2 ?_)
    | (with_reducible refine y_Reader_digitsFrom_0 ?_)
set_option maxRecDepth 10000 in
theorem j_Reader_makeNumerator {I0 : Nat → Int32} {I1 : Nat → Int32} {I2 : Nat → Int32} {n3 : Nat} {f3 : Nat → Int32} {Z1 Z2 Z3 : (Nat → Int32) × (Nat → Int32) → Prop} (hZ : ∀ u, Z1 u → Z2 u → Z3 u) : v_Reader_makeNumerator_0 I0 I1 I2 n3 f3 Z1 → v_Reader_makeNumerator_0 I0 I1 I2 n3 f3 Z2 → v_Reader_makeNumerator_0 I0 I1 I2 n3 f3 Z3 := by
  have lp10 : ∀ (N M : Nat) (cI0 : Nat → Int32) (cI1 : Nat → Int32) (cn3 : Nat) (cI2 : (Nat → Int32)) (cf3 : (Nat → Int32)) (cx1 : Int32), v_Reader_makeNumerator_10 cI0 cI1 cn3 Z1 N cI2 cf3 cx1 → v_Reader_makeNumerator_10 cI0 cI1 cn3 Z2 M cI2 cf3 cx1 → v_Reader_makeNumerator_10 cI0 cI1 cn3 Z3 N cI2 cf3 cx1 := by
    intro N; induction N with
    | zero => intro M cI0 cI1 cn3 cI2 cf3 cx1 h; exact h.elim
    | succ N ih =>
      intro M; cases M with
      | zero => intro cI0 cI1 cn3 cI2 cf3 cx1 _ h; exact h.elim
      | succ M =>
        intro cI0 cI1 cn3 cI2 cf3 cx1
        repeat' first
          | with_reducible exact ih _ _ _ _ _ _ _ 
          | (with_reducible refine j_Code_change (fun u => ?_))
          | (with_reducible refine j_Code_kind (fun r u => ?_))
          | with_reducible exact hZ _
          | (with_reducible refine jI_4 (fun h => ?_) (fun h => ?_) (fun h => ?_) (fun h => ?_))
          | (with_reducible refine jI_opt (fun h => ?_) (fun j h => ?_))
          | (with_reducible refine jI_ite (fun h => ?_) (fun h => ?_))
          | (with_reducible refine jI_ite' (fun h => ?_) (fun h => ?_))
          | with_reducible exact jI_no
          | (with_reducible refine jI_all ?_)
          | (with_reducible refine jI_and ?_)
          | (with_reducible refine y_Reader_makeNumerator_43 ?_)
          | (with_reducible refine y_Reader_makeNumerator_29 ?_)
          | (with_reducible refine y_Reader_makeNumerator_10 ?_)
          | (with_reducible refine y_Reader_makeNumerator_0 ?_)
  repeat' first
    | (with_reducible exact jI_ex (fun N M => lp10 N M _ _ _ _ _ _ ))
    | (with_reducible refine j_Code_change (fun u => ?_))
    | (with_reducible refine j_Code_kind (fun r u => ?_))
    | with_reducible exact hZ _
    | (with_reducible refine jI_4 (fun h => ?_) (fun h => ?_) (fun h => ?_) (fun h => ?_))
    | (with_reducible refine jI_opt (fun h => ?_) (fun j h => ?_))
    | (with_reducible refine jI_ite (fun h => ?_) (fun h => ?_))
    | (with_reducible refine jI_ite' (fun h => ?_) (fun h => ?_))
    | with_reducible exact jI_no
    | (with_reducible refine jI_all ?_)
    | (with_reducible refine jI_and ?_)
    | (with_reducible refine y_Reader_makeNumerator_43 ?_)
    | (with_reducible refine y_Reader_makeNumerator_29 ?_)
    | (with_reducible refine y_Reader_makeNumerator_10 ?_)
    | (with_reducible refine y_Reader_makeNumerator_0 ?_)
set_option maxRecDepth 10000 in
theorem j_Reader_readFraction {I0 : Nat → Int32} {n1 : Nat} {f1 : Nat → Int32} {I2 : Nat → Int32} {I3 : Nat → Int32} {n4 : Nat} {f4 : Nat → Int32} {n5 : Nat} {f5 : Nat → Int32} {x1 : Int32} {Z1 Z2 Z3 : Int32 → (Nat → Int32) × (Nat → Int32) × (Nat → Int32) × (Nat → Int32) → Prop} (hZ : ∀ r u, Z1 r u → Z2 r u → Z3 r u) : v_Reader_readFraction_0 I0 n1 f1 I2 I3 n4 f4 n5 f5 x1 Z1 → v_Reader_readFraction_0 I0 n1 f1 I2 I3 n4 f4 n5 f5 x1 Z2 → v_Reader_readFraction_0 I0 n1 f1 I2 I3 n4 f4 n5 f5 x1 Z3 := by
  have lp124 : ∀ (N M : Nat) (cI0 : Nat → Int32) (cn1 : Nat) (cf1 : Nat → Int32) (cn4 : Nat) (cn5 : Nat) (cx1 : Int32) (cx2 : Int32) (cx3 : Int32) (cI2 : (Nat → Int32)) (cI3 : (Nat → Int32)) (cf4 : (Nat → Int32)) (cf5 : (Nat → Int32)) (cx5 : Int32), v_Reader_readFraction_124 cI0 cn1 cf1 cn4 cn5 cx1 cx2 cx3 Z1 N cI2 cI3 cf4 cf5 cx5 → v_Reader_readFraction_124 cI0 cn1 cf1 cn4 cn5 cx1 cx2 cx3 Z2 M cI2 cI3 cf4 cf5 cx5 → v_Reader_readFraction_124 cI0 cn1 cf1 cn4 cn5 cx1 cx2 cx3 Z3 N cI2 cI3 cf4 cf5 cx5 := by
    intro N; induction N with
    | zero => intro M cI0 cn1 cf1 cn4 cn5 cx1 cx2 cx3 cI2 cI3 cf4 cf5 cx5 h; exact h.elim
    | succ N ih =>
      intro M; cases M with
      | zero => intro cI0 cn1 cf1 cn4 cn5 cx1 cx2 cx3 cI2 cI3 cf4 cf5 cx5 _ h; exact h.elim
      | succ M =>
        intro cI0 cn1 cf1 cn4 cn5 cx1 cx2 cx3 cI2 cI3 cf4 cf5 cx5
        repeat' first
          | with_reducible exact ih _ _ _ _ _ _ _ _ _ _ _ _ _ _ 
          | (with_reducible refine j_Code_add (fun u => ?_))
          | (with_reducible refine j_Reader_digitsFrom (fun r u => ?_))
          | (with_reducible refine j_Reader_kindBefore (fun r u => ?_))
          | (with_reducible refine j_Reader_makeNumerator (fun u => ?_))
          | (with_reducible refine j_Reader_placesFrom (fun r u => ?_))
          | (with_reducible refine j_Reader_sign (fun r u => ?_))
          | (with_reducible refine j_Section_hasCommaOrPercent (fun r u => ?_))
          | with_reducible exact hZ _ _
          | (with_reducible refine jI_4 (fun h => ?_) (fun h => ?_) (fun h => ?_) (fun h => ?_))
          | (with_reducible refine jI_opt (fun h => ?_) (fun j h => ?_))
          | (with_reducible refine jI_ite (fun h => ?_) (fun h => ?_))
          | (with_reducible refine jI_ite' (fun h => ?_) (fun h => ?_))
          | with_reducible exact jI_no
          | (with_reducible refine jI_all ?_)
          | (with_reducible refine jI_and ?_)
          | (with_reducible refine y_Reader_readFraction_115 ?_)
          | (with_reducible refine y_Reader_readFraction_112 ?_)
          | (with_reducible refine y_Reader_readFraction_173 ?_)
          | (with_reducible refine y_Reader_readFraction_149 ?_)
          | (with_reducible refine y_Reader_readFraction_146 ?_)
          | (with_reducible refine y_Reader_readFraction_124 ?_)
          | (with_reducible refine y_Reader_readFraction_90 ?_)
          | (with_reducible refine y_Reader_readFraction_87 ?_)
          | (with_reducible refine y_Reader_readFraction_76 ?_)
          | (with_reducible refine y_Reader_readFraction_49 ?_)
          | (with_reducible refine y_Reader_readFraction_48 ?_)
          | (with_reducible refine y_Reader_readFraction_31 ?_)
          | (with_reducible refine y_Reader_readFraction_20 ?_)
          | (with_reducible refine y_Reader_readFraction_15 ?_)
          | (with_reducible refine y_Reader_readFraction_7 ?_)
          | (with_reducible refine y_Reader_readFraction_0 ?_)
  have lp90 : ∀ (N M : Nat) (cI0 : Nat → Int32) (cn1 : Nat) (cf1 : Nat → Int32) (cI3 : Nat → Int32) (cn4 : Nat) (cn5 : Nat) (cx1 : Int32) (cx2 : Int32) (cx3 : Int32) (cI2 : (Nat → Int32)) (cf4 : (Nat → Int32)) (cf5 : (Nat → Int32)) (cx5 : Int32), v_Reader_readFraction_90 cI0 cn1 cf1 cI3 cn4 cn5 cx1 cx2 cx3 Z1 N cI2 cf4 cf5 cx5 → v_Reader_readFraction_90 cI0 cn1 cf1 cI3 cn4 cn5 cx1 cx2 cx3 Z2 M cI2 cf4 cf5 cx5 → v_Reader_readFraction_90 cI0 cn1 cf1 cI3 cn4 cn5 cx1 cx2 cx3 Z3 N cI2 cf4 cf5 cx5 := by
    intro N; induction N with
    | zero => intro M cI0 cn1 cf1 cI3 cn4 cn5 cx1 cx2 cx3 cI2 cf4 cf5 cx5 h; exact h.elim
    | succ N ih =>
      intro M; cases M with
      | zero => intro cI0 cn1 cf1 cI3 cn4 cn5 cx1 cx2 cx3 cI2 cf4 cf5 cx5 _ h; exact h.elim
      | succ M =>
        intro cI0 cn1 cf1 cI3 cn4 cn5 cx1 cx2 cx3 cI2 cf4 cf5 cx5
        repeat' first
          | with_reducible exact ih _ _ _ _ _ _ _ _ _ _ _ _ _ _ 
          | (with_reducible exact jI_ex (fun N M => lp124 N M _ _ _ _ _ _ _ _ _ _ _ _ _ ))
          | (with_reducible refine j_Code_add (fun u => ?_))
          | (with_reducible refine j_Reader_digitsFrom (fun r u => ?_))
          | (with_reducible refine j_Reader_kindBefore (fun r u => ?_))
          | (with_reducible refine j_Reader_makeNumerator (fun u => ?_))
          | (with_reducible refine j_Reader_placesFrom (fun r u => ?_))
          | (with_reducible refine j_Reader_sign (fun r u => ?_))
          | (with_reducible refine j_Section_hasCommaOrPercent (fun r u => ?_))
          | with_reducible exact hZ _ _
          | (with_reducible refine jI_4 (fun h => ?_) (fun h => ?_) (fun h => ?_) (fun h => ?_))
          | (with_reducible refine jI_opt (fun h => ?_) (fun j h => ?_))
          | (with_reducible refine jI_ite (fun h => ?_) (fun h => ?_))
          | (with_reducible refine jI_ite' (fun h => ?_) (fun h => ?_))
          | with_reducible exact jI_no
          | (with_reducible refine jI_all ?_)
          | (with_reducible refine jI_and ?_)
          | (with_reducible refine y_Reader_readFraction_115 ?_)
          | (with_reducible refine y_Reader_readFraction_112 ?_)
          | (with_reducible refine y_Reader_readFraction_173 ?_)
          | (with_reducible refine y_Reader_readFraction_149 ?_)
          | (with_reducible refine y_Reader_readFraction_146 ?_)
          | (with_reducible refine y_Reader_readFraction_124 ?_)
          | (with_reducible refine y_Reader_readFraction_90 ?_)
          | (with_reducible refine y_Reader_readFraction_87 ?_)
          | (with_reducible refine y_Reader_readFraction_76 ?_)
          | (with_reducible refine y_Reader_readFraction_49 ?_)
          | (with_reducible refine y_Reader_readFraction_48 ?_)
          | (with_reducible refine y_Reader_readFraction_31 ?_)
          | (with_reducible refine y_Reader_readFraction_20 ?_)
          | (with_reducible refine y_Reader_readFraction_15 ?_)
          | (with_reducible refine y_Reader_readFraction_7 ?_)
          | (with_reducible refine y_Reader_readFraction_0 ?_)
  repeat' first
    | (with_reducible exact jI_ex (fun N M => lp124 N M _ _ _ _ _ _ _ _ _ _ _ _ _ ))
    | (with_reducible exact jI_ex (fun N M => lp90 N M _ _ _ _ _ _ _ _ _ _ _ _ _ ))
    | (with_reducible refine j_Code_add (fun u => ?_))
    | (with_reducible refine j_Reader_digitsFrom (fun r u => ?_))
    | (with_reducible refine j_Reader_kindBefore (fun r u => ?_))
    | (with_reducible refine j_Reader_makeNumerator (fun u => ?_))
    | (with_reducible refine j_Reader_placesFrom (fun r u => ?_))
    | (with_reducible refine j_Reader_sign (fun r u => ?_))
    | (with_reducible refine j_Section_hasCommaOrPercent (fun r u => ?_))
    | with_reducible exact hZ _ _
    | (with_reducible refine jI_4 (fun h => ?_) (fun h => ?_) (fun h => ?_) (fun h => ?_))
    | (with_reducible refine jI_opt (fun h => ?_) (fun j h => ?_))
    | (with_reducible refine jI_ite (fun h => ?_) (fun h => ?_))
    | (with_reducible refine jI_ite' (fun h => ?_) (fun h => ?_))
    | with_reducible exact jI_no
    | (with_reducible refine jI_all ?_)
    | (with_reducible refine jI_and ?_)
    | (with_reducible refine y_Reader_readFraction_115 ?_)
    | (with_reducible refine y_Reader_readFraction_112 ?_)
    | (with_reducible refine y_Reader_readFraction_173 ?_)
    | (with_reducible refine y_Reader_readFraction_149 ?_)
    | (with_reducible refine y_Reader_readFraction_146 ?_)
    | (with_reducible refine y_Reader_readFraction_124 ?_)
    | (with_reducible refine y_Reader_readFraction_90 ?_)
    | (with_reducible refine y_Reader_readFraction_87 ?_)
    | (with_reducible refine y_Reader_readFraction_76 ?_)
    | (with_reducible refine y_Reader_readFraction_49 ?_)
    | (with_reducible refine y_Reader_readFraction_48 ?_)
    | (with_reducible refine y_Reader_readFraction_31 ?_)
    | (with_reducible refine y_Reader_readFraction_20 ?_)
    | (with_reducible refine y_Reader_readFraction_15 ?_)
    | (with_reducible refine y_Reader_readFraction_7 ?_)
    | (with_reducible refine y_Reader_readFraction_0 ?_)
set_option maxRecDepth 10000 in
theorem j_Reader_readPower {I0 : Nat → Int32} {I1 : Nat → Int32} {I2 : Nat → Int32} {n3 : Nat} {f3 : Nat → Int32} {n4 : Nat} {f4 : Nat → Int32} {n5 : Nat} {f5 : Nat → Int32} {x1 : Int32} {Z1 Z2 Z3 : Int32 → (Nat → Int32) × (Nat → Int32) × (Nat → Int32) × (Nat → Int32) → Prop} (hZ : ∀ r u, Z1 r u → Z2 r u → Z3 r u) : v_Reader_readPower_0 I0 I1 I2 n3 f3 n4 f4 n5 f5 x1 Z1 → v_Reader_readPower_0 I0 I1 I2 n3 f3 n4 f4 n5 f5 x1 Z2 → v_Reader_readPower_0 I0 I1 I2 n3 f3 n4 f4 n5 f5 x1 Z3 := by
  have lp115 : ∀ (N M : Nat) (cI0 : Nat → Int32) (cI2 : Nat → Int32) (cn3 : Nat) (cn4 : Nat) (cf4 : Nat → Int32) (cn5 : Nat) (cx1 : Int32) (cx4 : Int32) (cI1 : (Nat → Int32)) (cf3 : (Nat → Int32)) (cf5 : (Nat → Int32)) (cx7 : Int32), v_Reader_readPower_115 cI0 cI2 cn3 cn4 cf4 cn5 cx1 cx4 Z1 N cI1 cf3 cf5 cx7 → v_Reader_readPower_115 cI0 cI2 cn3 cn4 cf4 cn5 cx1 cx4 Z2 M cI1 cf3 cf5 cx7 → v_Reader_readPower_115 cI0 cI2 cn3 cn4 cf4 cn5 cx1 cx4 Z3 N cI1 cf3 cf5 cx7 := by
    intro N; induction N with
    | zero => intro M cI0 cI2 cn3 cn4 cf4 cn5 cx1 cx4 cI1 cf3 cf5 cx7 h; exact h.elim
    | succ N ih =>
      intro M; cases M with
      | zero => intro cI0 cI2 cn3 cn4 cf4 cn5 cx1 cx4 cI1 cf3 cf5 cx7 _ h; exact h.elim
      | succ M =>
        intro cI0 cI2 cn3 cn4 cf4 cn5 cx1 cx4 cI1 cf3 cf5 cx7
        repeat' first
          | with_reducible exact ih _ _ _ _ _ _ _ _ _ _ _ _ _ 
          | (with_reducible refine j_Code_add (fun u => ?_))
          | (with_reducible refine j_Reader_kindBefore (fun r u => ?_))
          | (with_reducible refine j_Reader_placesFrom (fun r u => ?_))
          | (with_reducible refine j_Reader_sign (fun r u => ?_))
          | (with_reducible refine j_Section_hasCommaOrPercent (fun r u => ?_))
          | with_reducible exact hZ _ _
          | (with_reducible refine jI_4 (fun h => ?_) (fun h => ?_) (fun h => ?_) (fun h => ?_))
          | (with_reducible refine jI_opt (fun h => ?_) (fun j h => ?_))
          | (with_reducible refine jI_ite (fun h => ?_) (fun h => ?_))
          | (with_reducible refine jI_ite' (fun h => ?_) (fun h => ?_))
          | with_reducible exact jI_no
          | (with_reducible refine jI_all ?_)
          | (with_reducible refine jI_and ?_)
          | (with_reducible refine y_Reader_readPower_141 ?_)
          | (with_reducible refine y_Reader_readPower_138 ?_)
          | (with_reducible refine y_Reader_readPower_115 ?_)
          | (with_reducible refine y_Reader_readPower_112 ?_)
          | (with_reducible refine y_Reader_readPower_71 ?_)
          | (with_reducible refine y_Reader_readPower_70 ?_)
          | (with_reducible refine y_Reader_readPower_63 ?_)
          | (with_reducible refine y_Reader_readPower_56 ?_)
          | (with_reducible refine y_Reader_readPower_44 ?_)
          | (with_reducible refine y_Reader_readPower_43 ?_)
          | (with_reducible refine y_Reader_readPower_34 ?_)
          | (with_reducible refine y_Reader_readPower_20 ?_)
          | (with_reducible refine y_Reader_readPower_12 ?_)
          | (with_reducible refine y_Reader_readPower_4 ?_)
          | (with_reducible refine y_Reader_readPower_0 ?_)
  repeat' first
    | (with_reducible exact jI_ex (fun N M => lp115 N M _ _ _ _ _ _ _ _ _ _ _ _ ))
    | (with_reducible refine j_Code_add (fun u => ?_))
    | (with_reducible refine j_Reader_kindBefore (fun r u => ?_))
    | (with_reducible refine j_Reader_placesFrom (fun r u => ?_))
    | (with_reducible refine j_Reader_sign (fun r u => ?_))
    | (with_reducible refine j_Section_hasCommaOrPercent (fun r u => ?_))
    | with_reducible exact hZ _ _
    | (with_reducible refine jI_4 (fun h => ?_) (fun h => ?_) (fun h => ?_) (fun h => ?_))
    | (with_reducible refine jI_opt (fun h => ?_) (fun j h => ?_))
    | (with_reducible refine jI_ite (fun h => ?_) (fun h => ?_))
    | (with_reducible refine jI_ite' (fun h => ?_) (fun h => ?_))
    | with_reducible exact jI_no
    | (with_reducible refine jI_all ?_)
    | (with_reducible refine jI_and ?_)
    | (with_reducible refine y_Reader_readPower_141 ?_)
    | (with_reducible refine y_Reader_readPower_138 ?_)
    | (with_reducible refine y_Reader_readPower_115 ?_)
    | (with_reducible refine y_Reader_readPower_112 ?_)
    | (with_reducible refine y_Reader_readPower_71 ?_)
    | (with_reducible refine y_Reader_readPower_70 ?_)
    | (with_reducible refine y_Reader_readPower_63 ?_)
    | (with_reducible refine y_Reader_readPower_56 ?_)
    | (with_reducible refine y_Reader_readPower_44 ?_)
    | (with_reducible refine y_Reader_readPower_43 ?_)
    | (with_reducible refine y_Reader_readPower_34 ?_)
    | (with_reducible refine y_Reader_readPower_20 ?_)
    | (with_reducible refine y_Reader_readPower_12 ?_)
    | (with_reducible refine y_Reader_readPower_4 ?_)
    | (with_reducible refine y_Reader_readPower_0 ?_)
set_option maxRecDepth 10000 in
theorem j_Reader_readRow {I0 : Nat → Int32} {n1 : Nat} {f1 : Nat → Int32} {I2 : Nat → Int32} {n3 : Nat} {f3 : Nat → Int32} {n4 : Nat} {f4 : Nat → Int32} {x1 : Int32} {x2 : Int32} {Z1 Z2 Z3 : Int32 → (Nat → Int32) × (Nat → Int32) × (Nat → Int32) → Prop} (hZ : ∀ r u, Z1 r u → Z2 r u → Z3 r u) : v_Reader_readRow_0 I0 n1 f1 I2 n3 f3 n4 f4 x1 x2 Z1 → v_Reader_readRow_0 I0 n1 f1 I2 n3 f3 n4 f4 x1 x2 Z2 → v_Reader_readRow_0 I0 n1 f1 I2 n3 f3 n4 f4 x1 x2 Z3 := by
  repeat' first
    | (with_reducible refine j_Reader_addRow (fun r u => ?_))
    | (with_reducible refine j_Reader_rowLength (fun r u => ?_))
    | with_reducible exact hZ _ _
    | (with_reducible refine jI_4 (fun h => ?_) (fun h => ?_) (fun h => ?_) (fun h => ?_))
    | (with_reducible refine jI_opt (fun h => ?_) (fun j h => ?_))
    | (with_reducible refine jI_ite (fun h => ?_) (fun h => ?_))
    | (with_reducible refine jI_ite' (fun h => ?_) (fun h => ?_))
    | with_reducible exact jI_no
    | (with_reducible refine jI_all ?_)
    | (with_reducible refine jI_and ?_)
    | (with_reducible refine y_Reader_readRow_116 ?_)
    | (with_reducible refine y_Reader_readRow_133 ?_)
    | (with_reducible refine y_Reader_readRow_65 ?_)
    | (with_reducible refine y_Reader_readRow_58 ?_)
    | (with_reducible refine y_Reader_readRow_82 ?_)
    | (with_reducible refine y_Reader_readRow_99 ?_)
    | (with_reducible refine y_Reader_readRow_5 ?_)
    | (with_reducible refine y_Reader_readRow_0 ?_)
set_option maxRecDepth 10000 in
theorem j_Reader_readInAll {I0 : Nat → Int32} {n1 : Nat} {f1 : Nat → Int32} {I2 : Nat → Int32} {n3 : Nat} {f3 : Nat → Int32} {n4 : Nat} {f4 : Nat → Int32} {x1 : Int32} {x2 : Int32} {Z1 Z2 Z3 : Int32 → (Nat → Int32) × (Nat → Int32) × (Nat → Int32) → Prop} (hZ : ∀ r u, Z1 r u → Z2 r u → Z3 r u) : v_Reader_readInAll_0 I0 n1 f1 I2 n3 f3 n4 f4 x1 x2 Z1 → v_Reader_readInAll_0 I0 n1 f1 I2 n3 f3 n4 f4 x1 x2 Z2 → v_Reader_readInAll_0 I0 n1 f1 I2 n3 f3 n4 f4 x1 x2 Z3 := by
  repeat' first
    | (with_reducible refine j_Code_add (fun u => ?_))
    | (with_reducible refine j_Reader_small (fun r u => ?_))
    | with_reducible exact hZ _ _
    | (with_reducible refine jI_4 (fun h => ?_) (fun h => ?_) (fun h => ?_) (fun h => ?_))
    | (with_reducible refine jI_opt (fun h => ?_) (fun j h => ?_))
    | (with_reducible refine jI_ite (fun h => ?_) (fun h => ?_))
    | (with_reducible refine jI_ite' (fun h => ?_) (fun h => ?_))
    | with_reducible exact jI_no
    | (with_reducible refine jI_all ?_)
    | (with_reducible refine jI_and ?_)
    | (with_reducible refine y_Reader_readInAll_52 ?_)
    | (with_reducible refine y_Reader_readInAll_48 ?_)
    | (with_reducible refine y_Reader_readInAll_19 ?_)
    | (with_reducible refine y_Reader_readInAll_0 ?_)
set_option maxRecDepth 10000 in
theorem j_Reader_readHalfDay {I0 : Nat → Int32} {I1 : Nat → Int32} {I2 : Nat → Int32} {n3 : Nat} {f3 : Nat → Int32} {n4 : Nat} {f4 : Nat → Int32} {x1 : Int32} {Z1 Z2 Z3 : Int32 → (Nat → Int32) × (Nat → Int32) × (Nat → Int32) × (Nat → Int32) → Prop} (hZ : ∀ r u, Z1 r u → Z2 r u → Z3 r u) : v_Reader_readHalfDay_0 I0 I1 I2 n3 f3 n4 f4 x1 Z1 → v_Reader_readHalfDay_0 I0 I1 I2 n3 f3 n4 f4 x1 Z2 → v_Reader_readHalfDay_0 I0 I1 I2 n3 f3 n4 f4 x1 Z3 := by
  repeat' first
    | (with_reducible refine j_Code_add (fun u => ?_))
    | with_reducible exact hZ _ _
    | (with_reducible refine jI_4 (fun h => ?_) (fun h => ?_) (fun h => ?_) (fun h => ?_))
    | (with_reducible refine jI_opt (fun h => ?_) (fun j h => ?_))
    | (with_reducible refine jI_ite (fun h => ?_) (fun h => ?_))
    | (with_reducible refine jI_ite' (fun h => ?_) (fun h => ?_))
    | with_reducible exact jI_no
    | (with_reducible refine jI_all ?_)
    | (with_reducible refine jI_and ?_)
    | (with_reducible refine y_Reader_readHalfDay_31 ?_)
    | (with_reducible refine y_Reader_readHalfDay_28 ?_)
    | (with_reducible refine y_Reader_readHalfDay_0 ?_)
set_option maxRecDepth 10000 in
theorem j_Reader_readParts {I0 : Nat → Int32} {I1 : Nat → Int32} {I2 : Nat → Int32} {n3 : Nat} {f3 : Nat → Int32} {n4 : Nat} {f4 : Nat → Int32} {n5 : Nat} {f5 : Nat → Int32} {x1 : Int32} {Z1 Z2 Z3 : Int32 → (Nat → Int32) × (Nat → Int32) × (Nat → Int32) × (Nat → Int32) → Prop} (hZ : ∀ r u, Z1 r u → Z2 r u → Z3 r u) : v_Reader_readParts_0 I0 I1 I2 n3 f3 n4 f4 n5 f5 x1 Z1 → v_Reader_readParts_0 I0 I1 I2 n3 f3 n4 f4 n5 f5 x1 Z2 → v_Reader_readParts_0 I0 I1 I2 n3 f3 n4 f4 n5 f5 x1 Z3 := by
  repeat' first
    | (with_reducible refine j_Code_add (fun u => ?_))
    | (with_reducible refine j_Reader_addOne (fun r u => ?_))
    | (with_reducible refine j_Reader_kindBefore (fun r u => ?_))
    | (with_reducible refine j_Reader_rowLength (fun r u => ?_))
    | (with_reducible refine j_Reader_sign (fun r u => ?_))
    | with_reducible exact hZ _ _
    | (with_reducible refine jI_4 (fun h => ?_) (fun h => ?_) (fun h => ?_) (fun h => ?_))
    | (with_reducible refine jI_opt (fun h => ?_) (fun j h => ?_))
    | (with_reducible refine jI_ite (fun h => ?_) (fun h => ?_))
    | (with_reducible refine jI_ite' (fun h => ?_) (fun h => ?_))
    | with_reducible exact jI_no
    | (with_reducible refine jI_all ?_)
    | (with_reducible refine jI_and ?_)
    | (with_reducible refine y_Reader_readParts_52 ?_)
    | (with_reducible refine y_Reader_readParts_45 ?_)
    | (with_reducible refine y_Reader_readParts_88 ?_)
    | (with_reducible refine y_Reader_readParts_53 ?_)
    | (with_reducible refine y_Reader_readParts_28 ?_)
    | (with_reducible refine y_Reader_readParts_24 ?_)
    | (with_reducible refine y_Reader_readParts_12 ?_)
    | (with_reducible refine y_Reader_readParts_4 ?_)
    | (with_reducible refine y_Reader_readParts_0 ?_)
set_option maxRecDepth 10000 in
theorem j_Reader_readDateItem {I0 : Nat → Int32} {n1 : Nat} {f1 : Nat → Int32} {I2 : Nat → Int32} {n3 : Nat} {f3 : Nat → Int32} {n4 : Nat} {f4 : Nat → Int32} {I5 : Nat → Int32} {x1 : Int32} {Z1 Z2 Z3 : Int32 → (Nat → Int32) × (Nat → Int32) × (Nat → Int32) × (Nat → Int32) → Prop} (hZ : ∀ r u, Z1 r u → Z2 r u → Z3 r u) : v_Reader_readDateItem_0 I0 n1 f1 I2 n3 f3 n4 f4 I5 x1 Z1 → v_Reader_readDateItem_0 I0 n1 f1 I2 n3 f3 n4 f4 I5 x1 Z2 → v_Reader_readDateItem_0 I0 n1 f1 I2 n3 f3 n4 f4 I5 x1 Z3 := by
  repeat' first
    | (with_reducible refine j_Reader_bracketRow (fun r u => ?_))
    | (with_reducible refine j_Reader_halfDayLength (fun r u => ?_))
    | (with_reducible refine j_Reader_isDateLetter (fun r u => ?_))
    | (with_reducible refine j_Reader_readHalfDay (fun r u => ?_))
    | (with_reducible refine j_Reader_readInAll (fun r u => ?_))
    | (with_reducible refine j_Reader_readParts (fun r u => ?_))
    | (with_reducible refine j_Reader_readRow (fun r u => ?_))
    | (with_reducible refine j_Reader_readSign (fun r u => ?_))
    | (with_reducible refine j_Reader_small (fun r u => ?_))
    | with_reducible exact hZ _ _
    | (with_reducible refine jI_4 (fun h => ?_) (fun h => ?_) (fun h => ?_) (fun h => ?_))
    | (with_reducible refine jI_opt (fun h => ?_) (fun j h => ?_))
    | (with_reducible refine jI_ite (fun h => ?_) (fun h => ?_))
    | (with_reducible refine jI_ite' (fun h => ?_) (fun h => ?_))
    | with_reducible exact jI_no
    | (with_reducible refine jI_all ?_)
    | (with_reducible refine jI_and ?_)
    | (with_reducible refine y_Reader_readDateItem_19 ?_)
    | (with_reducible refine y_Reader_readDateItem_36 ?_)
    | (with_reducible refine y_Reader_readDateItem_33 ?_)
    | (with_reducible refine y_Reader_readDateItem_52 ?_)
    | (with_reducible refine y_Reader_readDateItem_49 ?_)
    | (with_reducible refine y_Reader_readDateItem_72 ?_)
    | (with_reducible refine y_Reader_readDateItem_64 ?_)
    | (with_reducible refine y_Reader_readDateItem_10 ?_)
    | (with_reducible refine y_Reader_readDateItem_5 ?_)
    | (with_reducible refine y_Reader_readDateItem_0 ?_)
set_option maxRecDepth 10000 in
theorem j_Reader_readNumberItem {I0 : Nat → Int32} {n1 : Nat} {f1 : Nat → Int32} {I2 : Nat → Int32} {I3 : Nat → Int32} {n4 : Nat} {f4 : Nat → Int32} {n5 : Nat} {f5 : Nat → Int32} {x1 : Int32} {Z1 Z2 Z3 : Int32 → (Nat → Int32) × (Nat → Int32) × (Nat → Int32) × (Nat → Int32) → Prop} (hZ : ∀ r u, Z1 r u → Z2 r u → Z3 r u) : v_Reader_readNumberItem_0 I0 n1 f1 I2 I3 n4 f4 n5 f5 x1 Z1 → v_Reader_readNumberItem_0 I0 n1 f1 I2 I3 n4 f4 n5 f5 x1 Z2 → v_Reader_readNumberItem_0 I0 n1 f1 I2 I3 n4 f4 n5 f5 x1 Z3 := by
  repeat' first
    | (with_reducible refine j_Reader_addOne (fun r u => ?_))
    | (with_reducible refine j_Reader_readComma (fun r u => ?_))
    | (with_reducible refine j_Reader_readFraction (fun r u => ?_))
    | (with_reducible refine j_Reader_readPlace (fun r u => ?_))
    | (with_reducible refine j_Reader_readPoint (fun r u => ?_))
    | (with_reducible refine j_Reader_readPower (fun r u => ?_))
    | (with_reducible refine j_Reader_small (fun r u => ?_))
    | with_reducible exact hZ _ _
    | (with_reducible refine jI_4 (fun h => ?_) (fun h => ?_) (fun h => ?_) (fun h => ?_))
    | (with_reducible refine jI_opt (fun h => ?_) (fun j h => ?_))
    | (with_reducible refine jI_ite (fun h => ?_) (fun h => ?_))
    | (with_reducible refine jI_ite' (fun h => ?_) (fun h => ?_))
    | with_reducible exact jI_no
    | (with_reducible refine jI_all ?_)
    | (with_reducible refine jI_and ?_)
    | (with_reducible refine y_Reader_readNumberItem_116 ?_)
    | (with_reducible refine y_Reader_readNumberItem_122 ?_)
    | (with_reducible refine y_Reader_readNumberItem_128 ?_)
    | (with_reducible refine y_Reader_readNumberItem_85 ?_)
    | (with_reducible refine y_Reader_readNumberItem_90 ?_)
    | (with_reducible refine y_Reader_readNumberItem_96 ?_)
    | (with_reducible refine y_Reader_readNumberItem_5 ?_)
    | (with_reducible refine y_Reader_readNumberItem_0 ?_)
set_option maxRecDepth 10000 in
theorem j_Reader_addCommon {I0 : Nat → Int32} {n1 : Nat} {f1 : Nat → Int32} {I2 : Nat → Int32} {n3 : Nat} {f3 : Nat → Int32} {n4 : Nat} {f4 : Nat → Int32} {x1 : Int32} {x2 : Int32} {Z1 Z2 Z3 : (Nat → Int32) × (Nat → Int32) × (Nat → Int32) → Prop} (hZ : ∀ u, Z1 u → Z2 u → Z3 u) : v_Reader_addCommon_0 I0 n1 f1 I2 n3 f3 n4 f4 x1 x2 Z1 → v_Reader_addCommon_0 I0 n1 f1 I2 n3 f3 n4 f4 x1 x2 Z2 → v_Reader_addCommon_0 I0 n1 f1 I2 n3 f3 n4 f4 x1 x2 Z3 := by
  have lp67 : ∀ (N M : Nat) (cI0 : Nat → Int32) (cn1 : Nat) (cf1 : Nat → Int32) (cn3 : Nat) (cn4 : Nat) (cx1 : Int32) (cx2 : Int32) (cI2 : (Nat → Int32)) (cf3 : (Nat → Int32)) (cf4 : (Nat → Int32)) (cx3 : Int32), v_Reader_addCommon_67 cI0 cn1 cf1 cn3 cn4 cx1 cx2 Z1 N cI2 cf3 cf4 cx3 → v_Reader_addCommon_67 cI0 cn1 cf1 cn3 cn4 cx1 cx2 Z2 M cI2 cf3 cf4 cx3 → v_Reader_addCommon_67 cI0 cn1 cf1 cn3 cn4 cx1 cx2 Z3 N cI2 cf3 cf4 cx3 := by
    intro N; induction N with
    | zero => intro M cI0 cn1 cf1 cn3 cn4 cx1 cx2 cI2 cf3 cf4 cx3 h; exact h.elim
    | succ N ih =>
      intro M; cases M with
      | zero => intro cI0 cn1 cf1 cn3 cn4 cx1 cx2 cI2 cf3 cf4 cx3 _ h; exact h.elim
      | succ M =>
        intro cI0 cn1 cf1 cn3 cn4 cx1 cx2 cI2 cf3 cf4 cx3
        repeat' first
          | with_reducible exact ih _ _ _ _ _ _ _ _ _ _ _ _ 
          | (with_reducible refine j_Code_add (fun u => ?_))
          | (with_reducible refine j_Reader_sign (fun r u => ?_))
          | with_reducible exact hZ _
          | (with_reducible refine jI_4 (fun h => ?_) (fun h => ?_) (fun h => ?_) (fun h => ?_))
          | (with_reducible refine jI_opt (fun h => ?_) (fun j h => ?_))
          | (with_reducible refine jI_ite (fun h => ?_) (fun h => ?_))
          | (with_reducible refine jI_ite' (fun h => ?_) (fun h => ?_))
          | with_reducible exact jI_no
          | (with_reducible refine jI_all ?_)
          | (with_reducible refine jI_and ?_)
          | (with_reducible refine y_Reader_addCommon_154 ?_)
          | (with_reducible refine y_Reader_addCommon_113 ?_)
          | (with_reducible refine y_Reader_addCommon_110 ?_)
          | (with_reducible refine y_Reader_addCommon_126 ?_)
          | (with_reducible refine y_Reader_addCommon_138 ?_)
          | (with_reducible refine y_Reader_addCommon_151 ?_)
          | (with_reducible refine y_Reader_addCommon_89 ?_)
          | (with_reducible refine y_Reader_addCommon_86 ?_)
          | (with_reducible refine y_Reader_addCommon_67 ?_)
          | (with_reducible refine y_Reader_addCommon_65 ?_)
          | (with_reducible refine y_Reader_addCommon_5 ?_)
          | (with_reducible refine y_Reader_addCommon_0 ?_)
  repeat' first
    | (with_reducible exact jI_ex (fun N M => lp67 N M _ _ _ _ _ _ _ _ _ _ _ ))
    | (with_reducible refine j_Code_add (fun u => ?_))
    | (with_reducible refine j_Reader_sign (fun r u => ?_))
    | with_reducible exact hZ _
    | (with_reducible refine jI_4 (fun h => ?_) (fun h => ?_) (fun h => ?_) (fun h => ?_))
    | (with_reducible refine jI_opt (fun h => ?_) (fun j h => ?_))
    | (with_reducible refine jI_ite (fun h => ?_) (fun h => ?_))
    | (with_reducible refine jI_ite' (fun h => ?_) (fun h => ?_))
    | with_reducible exact jI_no
    | (with_reducible refine jI_all ?_)
    | (with_reducible refine jI_and ?_)
    | (with_reducible refine y_Reader_addCommon_154 ?_)
    | (with_reducible refine y_Reader_addCommon_113 ?_)
    | (with_reducible refine y_Reader_addCommon_110 ?_)
    | (with_reducible refine y_Reader_addCommon_126 ?_)
    | (with_reducible refine y_Reader_addCommon_138 ?_)
    | (with_reducible refine y_Reader_addCommon_151 ?_)
    | (with_reducible refine y_Reader_addCommon_89 ?_)
    | (with_reducible refine y_Reader_addCommon_86 ?_)
    | (with_reducible refine y_Reader_addCommon_67 ?_)
    | (with_reducible refine y_Reader_addCommon_65 ?_)
    | (with_reducible refine y_Reader_addCommon_5 ?_)
    | (with_reducible refine y_Reader_addCommon_0 ?_)
set_option maxRecDepth 10000 in
theorem j_Reader_readItem {I0 : Nat → Int32} {n1 : Nat} {f1 : Nat → Int32} {I2 : Nat → Int32} {I3 : Nat → Int32} {n4 : Nat} {f4 : Nat → Int32} {n5 : Nat} {f5 : Nat → Int32} {x1 : Int32} {Z1 Z2 Z3 : Int32 → (Nat → Int32) × (Nat → Int32) × (Nat → Int32) × (Nat → Int32) → Prop} (hZ : ∀ r u, Z1 r u → Z2 r u → Z3 r u) : v_Reader_readItem_0 I0 n1 f1 I2 I3 n4 f4 n5 f5 x1 Z1 → v_Reader_readItem_0 I0 n1 f1 I2 I3 n4 f4 n5 f5 x1 Z2 → v_Reader_readItem_0 I0 n1 f1 I2 I3 n4 f4 n5 f5 x1 Z3 := by
  repeat' first
    | (with_reducible refine j_Reader_addCommon (fun u => ?_))
    | (with_reducible refine j_Reader_addOne (fun r u => ?_))
    | (with_reducible refine j_Reader_commonLength (fun r u => ?_))
    | (with_reducible refine j_Reader_readDateItem (fun r u => ?_))
    | (with_reducible refine j_Reader_readNumberItem (fun r u => ?_))
    | (with_reducible refine j_Reader_readSign (fun r u => ?_))
    | (with_reducible refine j_Reader_sign (fun r u => ?_))
    | with_reducible exact hZ _ _
    | (with_reducible refine jI_4 (fun h => ?_) (fun h => ?_) (fun h => ?_) (fun h => ?_))
    | (with_reducible refine jI_opt (fun h => ?_) (fun j h => ?_))
    | (with_reducible refine jI_ite (fun h => ?_) (fun h => ?_))
    | (with_reducible refine jI_ite' (fun h => ?_) (fun h => ?_))
    | with_reducible exact jI_no
    | (with_reducible refine jI_all ?_)
    | (with_reducible refine jI_and ?_)
    | (with_reducible refine y_Reader_readItem_108 ?_)
    | (with_reducible refine y_Reader_readItem_16 ?_)
    | (with_reducible refine y_Reader_readItem_69 ?_)
    | (with_reducible refine y_Reader_readItem_75 ?_)
    | (with_reducible refine y_Reader_readItem_102 ?_)
    | (with_reducible refine y_Reader_readItem_94 ?_)
    | (with_reducible refine y_Reader_readItem_81 ?_)
    | (with_reducible refine y_Reader_readItem_5 ?_)
    | (with_reducible refine y_Reader_readItem_0 ?_)