theorem s13_bitCount {b : Nat} {post : Int32 → Prop} (hb : b < 2 ^ 60) (hk : post (nI (z_many (z_on b) 60))) : wJ13_bitCount_95d88 post (lN b) := by sorry
