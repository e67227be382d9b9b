set_option maxHeartbeats 20000000 in
set_option maxRecDepth 100000 in
theorem pc_type {xs : Nat → Int32} (h : ((xs (0 : Int32).toNatClampNeg) &&& (7 : Int32)) = (0 : Int32)) : lw_pure 5 xs 2 := by
  obtain ⟨c0, hn0⟩ : ∃ c, (((xs ((0 : Int32) + (1 : Int32)).toNatClampNeg).toUInt32 >>> ((24 : Int32).toUInt32 &&& Int32.toUInt32 31)).toInt32 &&& (255 : Int32)) = c := ⟨_, rfl⟩
  have hm0 : (((xs ((0 : Int32) + (1 : Int32)).toNatClampNeg) >>> ((24 : Int32) &&& 31)) &&& (255 : Int32)) = c0 := (zy_eq _ _ 24 (by decide) (by decide) (by decide)).trans hn0
  obtain ⟨c1, hn1⟩ : ∃ c, (((xs ((0 : Int32) + (1 : Int32)).toNatClampNeg).toUInt32 >>> (((24 : Int32) + (-8 : Int32)).toUInt32 &&& Int32.toUInt32 31)).toInt32 &&& (255 : Int32)) = c := ⟨_, rfl⟩
  have hm1 : (((xs ((0 : Int32) + (1 : Int32)).toNatClampNeg) >>> (((24 : Int32) + (-8 : Int32)) &&& 31)) &&& (255 : Int32)) = c1 := (zy_eq _ _ 16 (by decide) (by decide) (by decide)).trans hn1
  obtain ⟨c2, hn2⟩ : ∃ c, (((xs ((0 : Int32) + (1 : Int32)).toNatClampNeg).toUInt32 >>> ((((24 : Int32) + (-8 : Int32)) + (-8 : Int32)).toUInt32 &&& Int32.toUInt32 31)).toInt32 &&& (255 : Int32)) = c := ⟨_, rfl⟩
  have hm2 : (((xs ((0 : Int32) + (1 : Int32)).toNatClampNeg) >>> ((((24 : Int32) + (-8 : Int32)) + (-8 : Int32)) &&& 31)) &&& (255 : Int32)) = c2 := (zy_eq _ _ 8 (by decide) (by decide) (by decide)).trans hn2
  obtain ⟨c3, hn3⟩ : ∃ c, (((xs ((0 : Int32) + (1 : Int32)).toNatClampNeg).toUInt32 >>> (((((24 : Int32) + (-8 : Int32)) + (-8 : Int32)) + (-8 : Int32)).toUInt32 &&& Int32.toUInt32 31)).toInt32 &&& (255 : Int32)) = c := ⟨_, rfl⟩
  have hm3 : (((xs ((0 : Int32) + (1 : Int32)).toNatClampNeg) >>> (((((24 : Int32) + (-8 : Int32)) + (-8 : Int32)) + (-8 : Int32)) &&& 31)) &&& (255 : Int32)) = c3 := (zy_eq _ _ 0 (by decide) (by decide) (by decide)).trans hn3
  rcases zcls (m := 255) (by decide) hn0.symm with z0 | ⟨p0, q0, r0 | ⟨r0, s0⟩⟩ | ⟨p0, q0, r0, s0⟩
  · rcases zcls (m := 255) (by decide) hn1.symm with z1 | ⟨p1, q1, r1 | ⟨r1, s1⟩⟩ | ⟨p1, q1, r1, s1⟩
    · rcases zcls (m := 255) (by decide) hn2.symm with z2 | ⟨p2, q2, r2 | ⟨r2, s2⟩⟩ | ⟨p2, q2, r2, s2⟩
      · rcases zcls (m := 255) (by decide) hn3.symm with z3 | ⟨p3, q3, r3 | ⟨r3, s3⟩⟩ | ⟨p3, q3, r3, s3⟩
        · exact pt_zzzz h hn0 hm0 hn1 hm1 hn2 hm2 hn3 hm3 z0 z1 z2 z3
        · exact pt_zzzl h hn0 hm0 hn1 hm1 hn2 hm2 hn3 hm3 z0 z1 z2 p3 q3 r3
        · exact pt_zzzu h hn0 hm0 hn1 hm1 hn2 hm2 hn3 hm3 z0 z1 z2 p3 q3 r3 s3
        · exact pt_zzzg h hn0 hm0 hn1 hm1 hn2 hm2 hn3 hm3 z0 z1 z2 p3 q3 r3 s3
      · exact pt_zzl h hn0 hm0 hn1 hm1 hn2 hm2 hn3 hm3 z0 z1 p2 q2 r2
      · exact pt_zzu h hn0 hm0 hn1 hm1 hn2 hm2 hn3 hm3 z0 z1 p2 q2 r2 s2
      · rcases zcls (m := 255) (by decide) hn3.symm with z3 | ⟨p3, q3, r3 | ⟨r3, s3⟩⟩ | ⟨p3, q3, r3, s3⟩
        · exact pt_zzgz h hn0 hm0 hn1 hm1 hn2 hm2 hn3 hm3 z0 z1 p2 q2 r2 s2 z3
        · exact pt_zzgl h hn0 hm0 hn1 hm1 hn2 hm2 hn3 hm3 z0 z1 p2 q2 r2 s2 p3 q3 r3
        · exact pt_zzgu h hn0 hm0 hn1 hm1 hn2 hm2 hn3 hm3 z0 z1 p2 q2 r2 s2 p3 q3 r3 s3
        · exact pt_zzgg h hn0 hm0 hn1 hm1 hn2 hm2 hn3 hm3 z0 z1 p2 q2 r2 s2 p3 q3 r3 s3
    · exact pt_zl h hn0 hm0 hn1 hm1 hn2 hm2 hn3 hm3 z0 p1 q1 r1
    · exact pt_zu h hn0 hm0 hn1 hm1 hn2 hm2 hn3 hm3 z0 p1 q1 r1 s1
    · rcases zcls (m := 255) (by decide) hn2.symm with z2 | ⟨p2, q2, r2 | ⟨r2, s2⟩⟩ | ⟨p2, q2, r2, s2⟩
      · rcases zcls (m := 255) (by decide) hn3.symm with z3 | ⟨p3, q3, r3 | ⟨r3, s3⟩⟩ | ⟨p3, q3, r3, s3⟩
        · exact pt_zgzz h hn0 hm0 hn1 hm1 hn2 hm2 hn3 hm3 z0 p1 q1 r1 s1 z2 z3
        · exact pt_zgzl h hn0 hm0 hn1 hm1 hn2 hm2 hn3 hm3 z0 p1 q1 r1 s1 z2 p3 q3 r3
        · exact pt_zgzu h hn0 hm0 hn1 hm1 hn2 hm2 hn3 hm3 z0 p1 q1 r1 s1 z2 p3 q3 r3 s3
        · exact pt_zgzg h hn0 hm0 hn1 hm1 hn2 hm2 hn3 hm3 z0 p1 q1 r1 s1 z2 p3 q3 r3 s3
      · exact pt_zgl h hn0 hm0 hn1 hm1 hn2 hm2 hn3 hm3 z0 p1 q1 r1 s1 p2 q2 r2
      · exact pt_zgu h hn0 hm0 hn1 hm1 hn2 hm2 hn3 hm3 z0 p1 q1 r1 s1 p2 q2 r2 s2
      · rcases zcls (m := 255) (by decide) hn3.symm with z3 | ⟨p3, q3, r3 | ⟨r3, s3⟩⟩ | ⟨p3, q3, r3, s3⟩
        · exact pt_zggz h hn0 hm0 hn1 hm1 hn2 hm2 hn3 hm3 z0 p1 q1 r1 s1 p2 q2 r2 s2 z3
        · exact pt_zggl h hn0 hm0 hn1 hm1 hn2 hm2 hn3 hm3 z0 p1 q1 r1 s1 p2 q2 r2 s2 p3 q3 r3
        · exact pt_zggu h hn0 hm0 hn1 hm1 hn2 hm2 hn3 hm3 z0 p1 q1 r1 s1 p2 q2 r2 s2 p3 q3 r3 s3
        · exact pt_zggg h hn0 hm0 hn1 hm1 hn2 hm2 hn3 hm3 z0 p1 q1 r1 s1 p2 q2 r2 s2 p3 q3 r3 s3
  · exact pt_l h hn0 hm0 hn1 hm1 hn2 hm2 hn3 hm3 p0 q0 r0
  · exact pt_u h hn0 hm0 hn1 hm1 hn2 hm2 hn3 hm3 p0 q0 r0 s0
  · rcases zcls (m := 255) (by decide) hn1.symm with z1 | ⟨p1, q1, r1 | ⟨r1, s1⟩⟩ | ⟨p1, q1, r1, s1⟩
    · rcases zcls (m := 255) (by decide) hn2.symm with z2 | ⟨p2, q2, r2 | ⟨r2, s2⟩⟩ | ⟨p2, q2, r2, s2⟩
      · rcases zcls (m := 255) (by decide) hn3.symm with z3 | ⟨p3, q3, r3 | ⟨r3, s3⟩⟩ | ⟨p3, q3, r3, s3⟩
        · exact pt_gzzz h hn0 hm0 hn1 hm1 hn2 hm2 hn3 hm3 p0 q0 r0 s0 z1 z2 z3
        · exact pt_gzzl h hn0 hm0 hn1 hm1 hn2 hm2 hn3 hm3 p0 q0 r0 s0 z1 z2 p3 q3 r3
        · exact pt_gzzu h hn0 hm0 hn1 hm1 hn2 hm2 hn3 hm3 p0 q0 r0 s0 z1 z2 p3 q3 r3 s3
        · exact pt_gzzg h hn0 hm0 hn1 hm1 hn2 hm2 hn3 hm3 p0 q0 r0 s0 z1 z2 p3 q3 r3 s3
      · exact pt_gzl h hn0 hm0 hn1 hm1 hn2 hm2 hn3 hm3 p0 q0 r0 s0 z1 p2 q2 r2
      · exact pt_gzu h hn0 hm0 hn1 hm1 hn2 hm2 hn3 hm3 p0 q0 r0 s0 z1 p2 q2 r2 s2
      · rcases zcls (m := 255) (by decide) hn3.symm with z3 | ⟨p3, q3, r3 | ⟨r3, s3⟩⟩ | ⟨p3, q3, r3, s3⟩
        · exact pt_gzgz h hn0 hm0 hn1 hm1 hn2 hm2 hn3 hm3 p0 q0 r0 s0 z1 p2 q2 r2 s2 z3
        · exact pt_gzgl h hn0 hm0 hn1 hm1 hn2 hm2 hn3 hm3 p0 q0 r0 s0 z1 p2 q2 r2 s2 p3 q3 r3
        · exact pt_gzgu h hn0 hm0 hn1 hm1 hn2 hm2 hn3 hm3 p0 q0 r0 s0 z1 p2 q2 r2 s2 p3 q3 r3 s3
        · exact pt_gzgg h hn0 hm0 hn1 hm1 hn2 hm2 hn3 hm3 p0 q0 r0 s0 z1 p2 q2 r2 s2 p3 q3 r3 s3
    · exact pt_gl h hn0 hm0 hn1 hm1 hn2 hm2 hn3 hm3 p0 q0 r0 s0 p1 q1 r1
    · exact pt_gu h hn0 hm0 hn1 hm1 hn2 hm2 hn3 hm3 p0 q0 r0 s0 p1 q1 r1 s1
    · rcases zcls (m := 255) (by decide) hn2.symm with z2 | ⟨p2, q2, r2 | ⟨r2, s2⟩⟩ | ⟨p2, q2, r2, s2⟩
      · rcases zcls (m := 255) (by decide) hn3.symm with z3 | ⟨p3, q3, r3 | ⟨r3, s3⟩⟩ | ⟨p3, q3, r3, s3⟩
        · exact pt_ggzz h hn0 hm0 hn1 hm1 hn2 hm2 hn3 hm3 p0 q0 r0 s0 p1 q1 r1 s1 z2 z3
        · exact pt_ggzl h hn0 hm0 hn1 hm1 hn2 hm2 hn3 hm3 p0 q0 r0 s0 p1 q1 r1 s1 z2 p3 q3 r3
        · exact pt_ggzu h hn0 hm0 hn1 hm1 hn2 hm2 hn3 hm3 p0 q0 r0 s0 p1 q1 r1 s1 z2 p3 q3 r3 s3
        · exact pt_ggzg h hn0 hm0 hn1 hm1 hn2 hm2 hn3 hm3 p0 q0 r0 s0 p1 q1 r1 s1 z2 p3 q3 r3 s3
      · exact pt_ggl h hn0 hm0 hn1 hm1 hn2 hm2 hn3 hm3 p0 q0 r0 s0 p1 q1 r1 s1 p2 q2 r2
      · exact pt_ggu h hn0 hm0 hn1 hm1 hn2 hm2 hn3 hm3 p0 q0 r0 s0 p1 q1 r1 s1 p2 q2 r2 s2
      · rcases zcls (m := 255) (by decide) hn3.symm with z3 | ⟨p3, q3, r3 | ⟨r3, s3⟩⟩ | ⟨p3, q3, r3, s3⟩
        · exact pt_gggz h hn0 hm0 hn1 hm1 hn2 hm2 hn3 hm3 p0 q0 r0 s0 p1 q1 r1 s1 p2 q2 r2 s2 z3
        · exact pt_gggl h hn0 hm0 hn1 hm1 hn2 hm2 hn3 hm3 p0 q0 r0 s0 p1 q1 r1 s1 p2 q2 r2 s2 p3 q3 r3
        · exact pt_gggu h hn0 hm0 hn1 hm1 hn2 hm2 hn3 hm3 p0 q0 r0 s0 p1 q1 r1 s1 p2 q2 r2 s2 p3 q3 r3 s3
        · exact pt_gggg h hn0 hm0 hn1 hm1 hn2 hm2 hn3 hm3 p0 q0 r0 s0 p1 q1 r1 s1 p2 q2 r2 s2 p3 q3 r3 s3

