def zl : List Int32 → Nat → Int32
  | [], _ => 0
  | a :: _, 0 => a
  | _ :: l, k + 1 => zl l k
def zlj : List Int64 → Nat → Int64
  | [], _ => 0
  | a :: _, 0 => a
  | _ :: l, k + 1 => zlj l k
