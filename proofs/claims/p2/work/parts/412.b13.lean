theorem yF_u {f g : Nat → Int32} {a : Int} {i v : Int32} (h : yF f g a) (h1 : a ≤ i.toInt) (h0 : 0 ≤ i.toInt) : yF f (upd g i.toNatClampNeg v) a := fun n k => by
  rw [pk_un]
  · exact h n k
  · rw [← ztn]; omega
theorem yF_e {f g k : Nat → Int32} {a : Int} {i v : Int32} (e : g = upd k i.toNatClampNeg v) (h : yF f k a) (h1 : a ≤ i.toInt) (h0 : 0 ≤ i.toInt) : yF f g a := e ▸ yF_u h h1 h0
theorem yF_Nc {kd kd' : Nat → Int32} {a c : Int} (h : yN kd kd' a) (hc : c ≤ a) : yF kd kd' c := fun n h1 => (h n).resolve_right (fun d => by omega)
theorem yF_mono2 {f g : Nat → Int32} {a c : Int} (h : yF f g a) (hc : c ≤ a) : yF f g c := fun n h1 => h n (by omega)
