/-! a fraction's items -/
def lkL (c : Int) : Nat → List (Int × Int) → List Int
  | 0, _ => []
  | _ + 1, [] => []
  | n + 1, p :: r => (if p.2 = c then [if c = 63 then 32 else c] else []) ++ lkL c n r
theorem lac_L {K M : Nat → Int32} {c e : Int} : ∀ (n : Nat) (x : Int), 0 ≤ x → x + n ≤ e → lac M c x (x + n) = lkL c n (cs K M x e)
  | 0, x, _, _ => by rw [lac_x (by omega)]; rfl
  | n + 1, x, h0, h => by
    rw [lac_s h0 (by omega) rfl, cs_s h0 (by omega) rfl rfl rfl]
    show _ = (if (M x.toNat).toInt = c then _ else _) ++ lkL c n (cs K M (x + 1) e)
    rw [← lac_L (K := K) (M := M) n (x + 1) (by omega) (by omega), show x + 1 + (n : Int) = x + ((n + 1 : Nat) : Int) by omega]
def uL (dn u : Int) (r : List (Int × Int)) : List Int := lkL 48 (dn - nd3 u).toNat r ++ fig u 1 ++ lkL 63 (dn - nd3 u).toNat r
theorem lac_K {K M : Nat → Int32} {c e x k : Int} (h0 : 0 ≤ x) (h : x + k ≤ e) : lac M c x (x + k) = lkL c k.toNat (cs K M x e) := by
  rcases Int.lt_or_le k 0 with q | q
  · rw [lac_x (by omega), show k.toNat = 0 by omega]; rfl
  · have := lac_L (K := K) (M := M) (c := c) (e := e) k.toNat x h0 (by omega)
    rw [show ((k.toNat : Nat) : Int) = k by omega] at this; exact this
theorem uO_L {K M : Nat → Int32} {x dn u e : Int} (h0 : 0 ≤ x) (h : x + (dn - nd3 u) ≤ e) : uO M x dn u = uL dn u (cs K M x e) := by
  unfold uO uL
  rw [lac_K (K := K) h0 h, lac_K (K := K) h0 h]
def frun (A B : Int → Int → List Int) (bl : Int) (U : List (Int × Int) → List Int) : Int → Int → List (Int × Int) → List Int
  | _, _, [] => []
  | a, q, p :: r =>
    if p.1 = 1 then [p.2] ++ frun A B bl U a q r
    else if p.1 = 2 then A p.2 (a - 1) ++ frun A B bl U (a - 1) q r
    else if ¬ bl = 0 ∧ 9 ≤ p.1 ∧ p.1 ≤ 12 then [32] ++ frun A B bl U a q r
    else if p.1 = 9 then B p.2 (q - 1) ++ frun A B bl U a (q - 1) r
    else if p.1 = 10 then ([47] ++ U r) ++ frun A B bl U a q r
    else frun A B bl U a q r
def stO (dn : Int) : List (Int × Int) → Prop
  | [] => True
  | p :: r => (p.1 = 10 → dn ≤ r.length) ∧ stO dn r
def fsO (I : Nat → Int32) (K M : Nat → Int32) (n : Int) : Prop := (0 ≤ (I 1).toInt ∧ (I 1).toInt ≤ (I 2).toInt ∧ (I 2).toInt ≤ n ∧ n ≤ 64 ∧ 0 ≤ (I 11).toInt ∧ (I 11).toInt ≤ 3) ∧ itO (cs K M (I 1).toInt (I 2).toInt) ∧ cK 2 (cs K M (I 1).toInt (I 2).toInt) = (I 3).toInt ∧ cK 9 (cs K M (I 1).toInt (I 2).toInt) = (I 10).toInt ∧ stO (I 11).toInt (cs K M (I 1).toInt (I 2).toInt)
theorem fsO_b {I K M : Nat → Int32} {n : Int} (h : fsO I K M n) : (0 ≤ (I 1).toInt ∧ (I 1).toInt ≤ (I 2).toInt ∧ (I 2).toInt ≤ n ∧ n ≤ 64 ∧ 0 ≤ (I 11).toInt ∧ (I 11).toInt ≤ 3) ∧ 0 ≤ (I 3).toInt ∧ (I 3).toInt ≤ 64 ∧ 0 ≤ (I 10).toInt ∧ (I 10).toInt ≤ 64 := by
  obtain ⟨b, _, h2, h9, _⟩ := h
  have l := cs_len (K := K) (M := M) b.2.1
  have a2 := cK_0 (k := 2) (cs K M (I 1).toInt (I 2).toInt); have c2 := cK_le (k := 2) (cs K M (I 1).toInt (I 2).toInt)
  have a9 := cK_0 (k := 9) (cs K M (I 1).toInt (I 2).toInt); have c9 := cK_le (k := 9) (cs K M (I 1).toInt (I 2).toInt)
  omega
def fG (c : Nat) (f : Nat → Int32) (n : Int) (c2 : Nat) (g : Nat → Int32) (m : Int) (A B : Int → Int → List Int) (bl dn : Int) (U : List (Int × Int) → List Int) (a q : Int) (l : List (Int × Int)) (T : List Int) : Prop :=
  gC c f n c2 g m (frun A B bl U a q l) T ∧ itO l ∧ cK 2 l ≤ a ∧ cK 9 l ≤ q ∧ stO dn l
section
variable {c c2 c3 : Nat} {f g h : Nat → Int32} {n m m2 : Int} {A B : Int → Int → List Int} {bl dn : Int} {U : List (Int × Int) → List Int} {a q k mk : Int} {l : List (Int × Int)} {T : List Int}
theorem fG_x (H : fG c f n c2 g m A B bl dn U a q l T) (hl : l = []) : pC c f n c2 g m T := by subst hl; exact gC_x H.1 rfl
theorem fG_p (H : fG c f n c2 g m A B bl dn U a q l T) : 0 ≤ a ∧ 0 ≤ q := by
  have := cK_0 (k := 2) l; have := cK_0 (k := 9) l; have h1 := H.2.2.1; have h2 := H.2.2.2.1; omega
theorem fG_m (H : fG c f n c2 g m A B bl dn U a q ((k, mk) :: l) T) : 0 ≤ mk ∧ mk < 256 := H.2.1.1
theorem fG_a (H : fG c f n c2 g m A B bl dn U a q ((k, mk) :: l) T) (hk : k = 2) : 1 ≤ a := by
  have h2 : (if k = 2 then 1 else 0) + cK 2 l ≤ a := H.2.2.1
  have := cK_0 (k := 2) l
  rw [if_pos hk] at h2; omega
theorem fG_q (H : fG c f n c2 g m A B bl dn U a q ((k, mk) :: l) T) (hk : k = 9) : 1 ≤ q := by
  have h2 : (if k = 9 then 1 else 0) + cK 9 l ≤ q := H.2.2.2.1
  have := cK_0 (k := 9) l
  rw [if_pos hk] at h2; omega
theorem fG_s (H : fG c f n c2 g m A B bl dn U a q ((k, mk) :: l) T) (hk : k = 10) : dn ≤ l.length := H.2.2.2.2.1 hk
theorem fG_t {a2 q2 : Int} {X : List Int} (H : fG c f n c2 g m A B bl dn U a q ((k, mk) :: l) T) (hA : pC c2 g m c3 h m2 X) (e : frun A B bl U a q ((k, mk) :: l) = X ++ frun A B bl U a2 q2 l) (ha : a2 = (if k = 2 then a - 1 else a)) (hq : q2 = (if k = 9 ∧ bl = 0 then q - 1 else q)) : fG c f n c3 h m2 A B bl dn U a2 q2 l T := by
  obtain ⟨h1, h2, h3, h4, h5⟩ := H
  have h3 : (if k = 2 then 1 else 0) + cK 2 l ≤ a := h3
  have h4 : (if k = 9 then 1 else 0) + cK 9 l ≤ q := h4
  refine ⟨gC_s h1 hA e, h2.2, ?_, ?_, h5.2⟩
  · rw [ha]; split at h3
    · rw [if_pos (by assumption)]; omega
    · rw [if_neg (by assumption)]; omega
  · rw [hq]
    by_cases k9 : k = 9
    · rw [if_pos k9] at h4
      split <;> omega
    · rw [if_neg k9] at h4
      rw [if_neg (fun c => k9 c.1)]; omega
theorem fr_1 (hk : k = 1) : frun A B bl U a q ((k, mk) :: l) = [mk] ++ frun A B bl U a q l := by subst hk; rfl
theorem fr_2 (hk : k = 2) : frun A B bl U a q ((k, mk) :: l) = A mk (a - 1) ++ frun A B bl U (a - 1) q l := by subst hk; rfl
theorem fr_b (hk : 9 ≤ k ∧ k ≤ 12) (hb : ¬ bl = 0) : frun A B bl U a q ((k, mk) :: l) = [32] ++ frun A B bl U a q l := by
  show (if k = 1 then _ else if k = 2 then _ else if ¬ bl = 0 ∧ 9 ≤ k ∧ k ≤ 12 then _ else _) = _
  rw [if_neg (by omega), if_neg (by omega), if_pos ⟨hb, hk⟩]
theorem fr_9 (hk : k = 9) (hb : bl = 0) : frun A B bl U a q ((k, mk) :: l) = B mk (q - 1) ++ frun A B bl U a (q - 1) l := by
  subst hk
  show (if (9 : Int) = 1 then _ else if (9 : Int) = 2 then _ else if ¬ bl = 0 ∧ 9 ≤ (9 : Int) ∧ (9 : Int) ≤ 12 then _ else _) = _
  rw [if_neg (by decide), if_neg (by decide), if_neg (fun c => c.1 hb)]; rfl
theorem fr_10 (hk : k = 10) (hb : bl = 0) : frun A B bl U a q ((k, mk) :: l) = ([47] ++ U l) ++ frun A B bl U a q l := by
  subst hk
  show (if (10 : Int) = 1 then _ else if (10 : Int) = 2 then _ else if ¬ bl = 0 ∧ 9 ≤ (10 : Int) ∧ (10 : Int) ≤ 12 then _ else _) = _
  rw [if_neg (by decide), if_neg (by decide), if_neg (fun c => c.1 hb)]; rfl
theorem fr_n (h1 : ¬ k = 1) (h2 : ¬ k = 2) (h9 : ¬ k = 9) (h10 : ¬ k = 10) (hb : bl = 0 ∨ ¬ (9 ≤ k ∧ k ≤ 12)) : frun A B bl U a q ((k, mk) :: l) = [] ++ frun A B bl U a q l := by
  show (if k = 1 then _ else if k = 2 then _ else if ¬ bl = 0 ∧ 9 ≤ k ∧ k ≤ 12 then _ else if k = 9 then _ else if k = 10 then _ else _) = _
  rw [if_neg h1, if_neg h2, if_neg (fun c => hb.elim c.1 (fun d => d c.2)), if_neg h9, if_neg h10]; rfl
theorem fH_1 (H : fG c f n c2 g m A B bl dn U a q ((k, mk) :: l) T) (hk : k = 1) (hA : pC c2 g m c3 h m2 [mk]) : fG c f n c3 h m2 A B bl dn U a q l T := fG_t H hA (fr_1 hk) (by rw [if_neg (by omega)]) (by rw [if_neg (by omega)])
theorem fH_b (H : fG c f n c2 g m A B bl dn U a q ((k, mk) :: l) T) (hk : 9 ≤ k ∧ k ≤ 12) (hb : ¬ bl = 0) (hA : pC c2 g m c3 h m2 [32]) : fG c f n c3 h m2 A B bl dn U a q l T := fG_t H hA (fr_b hk hb) (by rw [if_neg (by omega)]) (by rw [if_neg (by omega)])
theorem fH_n (H : fG c f n c2 g m A B bl dn U a q ((k, mk) :: l) T) (h1 : hN k 1) (h2 : hN k 2) (h9 : hN k 9) (h10 : hN k 10) (hb : bl = 0 ∨ ¬ (9 ≤ k ∧ k ≤ 12)) : fG c f n c2 g m A B bl dn U a q l T := fG_t H (pC_0 rfl) (fr_n h1 h2 h9 h10 hb) (by rw [if_neg h2]) (by rw [if_neg (fun c => h9 c.1)])
theorem fH_10 {X : List Int} (H : fG c f n c2 g m A B bl dn U a q ((k, mk) :: l) T) (hk : k = 10) (hb : bl = 0) (hA : pC c2 g m c3 h m2 ([47] ++ X)) (hX : X = U l) : fG c f n c3 h m2 A B bl dn U a q l T := fG_t H hA (by rw [hX]; exact fr_10 hk hb) (by rw [if_neg (by omega)]) (by rw [if_neg (by omega)])
end
section
variable {c c2 c3 : Nat} {f g h : Nat → Int32} {n m m2 : Int} {D E : Int → Int} {w W v V : Int} {bl dn : Int} {U : List (Int × Int) → List Int} {a q k mk z : Int} {l : List (Int × Int)} {T : List Int}
theorem fH_2 {a2 t : Int} (H : fG c f n c2 g m (nPl D w W 0) (nPl E v V 0) bl dn U a q ((k, mk) :: l) T) (hk : k = 2) (hA : pC c2 g m c3 h m2 (pls D w mk z a2 (if a2 = W - 1 then 1 else 0))) (hz : z = 0) (ha : a2 = a - 1) (ht : t = a2) : fG c f n c3 h m2 (nPl D w W 0) (nPl E v V 0) bl dn U t q l T := by
  subst ht; subst hz
  exact fG_t H hA (by rw [fr_2 hk, ha]; rfl) (by rw [if_pos hk, ha]) (by rw [if_neg (by omega)])
theorem fH_9 {q2 t : Int} (H : fG c f n c2 g m (nPl D w W 0) (nPl E v V 0) bl dn U a q ((k, mk) :: l) T) (hk : k = 9) (hb : bl = 0) (hA : pC c2 g m c3 h m2 (pls E v mk z q2 (if q2 = V - 1 then 1 else 0))) (hz : z = 0) (ha : q2 = q - 1) (ht : t = q2) : fG c f n c3 h m2 (nPl D w W 0) (nPl E v V 0) bl dn U a t l T := by
  subst ht; subst hz
  exact fG_t H hA (by rw [fr_9 hk hb, ha]; rfl) (by rw [if_neg (by omega)]) (by rw [if_pos ⟨hk, hb⟩, ha])
end
theorem fG_i {c : Nat} {f : Nat → Int32} {n : Int} {A B : Int → Int → List Int} {bl b2 : Int} {U : List (Int × Int) → List Int} {I K M : Nat → Int32} {k : Int} (h : fsO I K M k) (hb : bl = b2) : fG c f n c f n A B bl (I 11).toInt U (I 3).toInt (I 10).toInt (cs K M (I 1).toInt (I 2).toInt) (frun A B b2 U (I 3).toInt (I 10).toInt (cs K M (I 1).toInt (I 2).toInt)) := by
  subst hb
  exact ⟨gC_i rfl rfl, h.2.1, by rw [h.2.2.1]; exact Int.le_refl _, by rw [h.2.2.2.1]; exact Int.le_refl _, h.2.2.2.2⟩
def fBl (o W : Int) : Int := if o = 0 ∧ 0 < W then 1 else 0
theorem fBl_1 {o W : Int} (h : o = 0) (hW : ¬ W ≤ 0) : (1 : Int32).toInt = fBl o W := by unfold fBl; rw [if_pos ⟨h, by omega⟩]; rfl
theorem fBl_0 {o W : Int} (h : ¬ o = 0 ∨ W ≤ 0) : (0 : Int32).toInt = fBl o W := by unfold fBl; rw [if_neg (by omega)]; rfl
theorem nd3_p {u : Int} : 0 ≤ nd3 u := by unfold nd3; (repeat' split) <;> omega
