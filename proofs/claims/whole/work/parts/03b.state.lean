abbrev S_Tree : Type := (Nat → Int64) × (Nat → Int64)
abbrev S_Source : Type := (Nat → Int32) × (Nat → Int64) × Int32
abbrev S_Givers : Type := (Nat → Int32) × (Nat → Int32) × (Nat → Int32) × (Nat → Int32) × (Nat → Int32) × Int32 × Int32 × Int32
abbrev S_Piece : Type := S_Tree × Int32 × Int32 × Int64 × Int64 × Int32
abbrev S_Joiner : Type := S_Tree × S_Tree × S_Tree × (Nat → Int32) × (Nat → Int64) × (Nat → Int32) × Int32 × Int32
abbrev S_SP : Type := S_Source × S_Givers × S_Joiner × S_Piece × S_Tree × Int32
abbrev S_Mod : Type := (Nat → Int32) × (Nat → Int64) × Int32 × (Nat → Int32) × (Nat → Int32) × (Nat → Int32) × (Nat → Int32) × (Nat → Int32) × Int32 × Int32 × Int32 × (Nat → Int64) × (Nat → Int32) × (Nat → Int64) × Int32 × Int32 × (Nat → Int64) × (Nat → Int64) × (Nat → Int64) × (Nat → Int32)
