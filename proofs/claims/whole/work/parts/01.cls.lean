def RX0 : String := "TightHulls$Hull"
def TX0 : u_T := fun k => match k with
  | 0 => ("TightHulls$Hull", "basis", "LTightHulls$Table;", true)
  | 1 => ("TightHulls$Hull", "followed", "Z", false)
  | 2 => ("TightHulls$Hull", "numbers", "[I", true)
  | 3 => ("TightHulls$Hull", "keys", "[J", true)
  | 4 => ("TightHulls$Hull", "twos", "[I", true)
  | 5 => ("TightHulls$Hull", "there", "Z", false)
  | _ => ("TightHulls$Hull", "held", "I", false)
def tyX0 : Nat → FieldType := fun k => match k with
  | 0 => .object "TightHulls$Table"
  | 1 => .boolean
  | 2 => .array .int
  | 3 => .array .long
  | 4 => .array .int
  | 5 => .boolean
  | _ => .int
def RX1 : String := "TightHulls$Rows"
def TX1 : u_T := fun k => match k with
  | 0 => ("TightHulls$Rows", "most", "I", true)
  | 1 => ("TightHulls$Rows", "cells", "[I", true)
  | _ => ("TightHulls$Rows", "held", "I", false)
def tyX1 : Nat → FieldType := fun k => match k with
  | 0 => .int
  | 1 => .array .int
  | _ => .int
def RX2 : String := "TightHulls$Setup"
def TX2 : u_T := fun k => match k with
  | 0 => ("TightHulls$Setup", "table", "LTightHulls$Table;", true)
  | 1 => ("TightHulls$Setup", "numbers", "[I", true)
  | 2 => ("TightHulls$Setup", "images", "[I", true)
  | 3 => ("TightHulls$Setup", "seen", "LTightHulls$Rows;", true)
  | 4 => ("TightHulls$Setup", "events", "LTightHulls$Rows;", true)
  | _ => ("TightHulls$Setup", "book", "LTightHulls$Rows;", true)
def tyX2 : Nat → FieldType := fun k => match k with
  | 0 => .object "TightHulls$Table"
  | 1 => .array .int
  | 2 => .array .int
  | 3 => .object "TightHulls$Rows"
  | 4 => .object "TightHulls$Rows"
  | _ => .object "TightHulls$Rows"
def RX3 : String := "TightHulls$Splits"
def TX3 : u_T := fun k => match k with
  | 0 => ("TightHulls$Splits", "basis", "LTightHulls$Table;", true)
  | 1 => ("TightHulls$Splits", "followed", "Z", false)
  | 2 => ("TightHulls$Splits", "bits", "[I", true)
  | 3 => ("TightHulls$Splits", "weights", "[I", true)
  | _ => ("TightHulls$Splits", "held", "I", false)
def tyX3 : Nat → FieldType := fun k => match k with
  | 0 => .object "TightHulls$Table"
  | 1 => .boolean
  | 2 => .array .int
  | 3 => .array .int
  | _ => .int
def RX4 : String := "TightHulls$Table"
def TX4 : u_T := fun k => match k with
  | 0 => ("TightHulls$Table", "size", "I", false)
  | _ => ("TightHulls$Table", "gaps", "[I", true)
def tyX4 : Nat → FieldType := fun k => match k with
  | 0 => .int
  | _ => .array .int
def RX5 : String := "TightHulls$Tapes"
def TX5 : u_T := fun k => match k with
  | 0 => ("TightHulls$Tapes", "items", "[[J", true)
  | 1 => ("TightHulls$Tapes", "sorts", "[I", true)
  | _ => ("TightHulls$Tapes", "lengths", "[I", true)
def tyX5 : Nat → FieldType := fun k => match k with
  | 0 => .array (.array .long)
  | 1 => .array .int
  | _ => .array .int
def RX6 : String := "TightHulls$Text"
def TX6 : u_T := fun k => match k with
  | 0 => ("TightHulls$Text", "signs", "[B", true)
  | 1 => ("TightHulls$Text", "held", "I", false)
  | 2 => ("TightHulls$Text", "starts", "[I", true)
  | _ => ("TightHulls$Text", "clauses", "I", false)
def tyX6 : Nat → FieldType := fun k => match k with
  | 0 => .array .byte
  | 1 => .int
  | 2 => .array .int
  | _ => .int
def RX7 : String := "TightHulls$Ties"
def TX7 : u_T := fun k => match k with
  | _ => ("", "", "", false)
def tyX7 : Nat → FieldType := fun k => match k with
  | _ => .int
def RX8 : String := "TightHulls"
def TX8 : u_T := fun k => match k with
  | 0 => ("TightHulls", "now", "LTightHulls$Setup;", true)
  | 1 => ("TightHulls", "taken", "LTightHulls$Setup;", true)
  | 2 => ("TightHulls", "isTaken", "Z", false)
  | 3 => ("TightHulls", "trial", "LTightHulls$Table;", true)
  | 4 => ("TightHulls", "splits", "LTightHulls$Splits;", true)
  | 5 => ("TightHulls", "hull", "LTightHulls$Hull;", true)
  | 6 => ("TightHulls", "text", "LTightHulls$Text;", true)
  | _ => ("TightHulls", "tapes", "LTightHulls$Tapes;", true)
def tyX8 : Nat → FieldType := fun k => match k with
  | 0 => .object "TightHulls$Setup"
  | 1 => .object "TightHulls$Setup"
  | 2 => .boolean
  | 3 => .object "TightHulls$Table"
  | 4 => .object "TightHulls$Splits"
  | 5 => .object "TightHulls$Hull"
  | 6 => .object "TightHulls$Text"
  | _ => .object "TightHulls$Tapes"
def RX9 : String := "TightHullsModel"
def TX9 : u_T := fun k => match k with
  | 0 => ("TightHullsModel", "points", "I", false)
  | 1 => ("TightHullsModel", "far", "[I", true)
  | 2 => ("TightHullsModel", "number", "[I", true)
  | 3 => ("TightHullsModel", "becomes", "[I", true)
  | 4 => ("TightHullsModel", "seen", "I", false)
  | 5 => ("TightHullsModel", "seenSplit", "[I", true)
  | 6 => ("TightHullsModel", "seenWeight", "[I", true)
  | 7 => ("TightHullsModel", "events", "I", false)
  | 8 => ("TightHullsModel", "eventWhat", "[I", true)
  | 9 => ("TightHullsModel", "eventBy", "[I", true)
  | 10 => ("TightHullsModel", "books", "I", false)
  | 11 => ("TightHullsModel", "bookOne", "[I", true)
  | 12 => ("TightHullsModel", "bookOther", "[I", true)
  | 13 => ("TightHullsModel", "bookFar", "[I", true)
  | 14 => ("TightHullsModel", "text", "[I", true)
  | 15 => ("TightHullsModel", "texts", "I", false)
  | 16 => ("TightHullsModel", "sort", "[I", true)
  | 17 => ("TightHullsModel", "size", "[I", true)
  | 18 => ("TightHullsModel", "cell", "[J", true)
  | 19 => ("TightHullsModel", "between", "[J", true)
  | 20 => ("TightHullsModel", "kept", "[I", true)
  | 21 => ("TightHullsModel", "aside", "[I", true)
  | 22 => ("TightHullsModel", "order", "[I", true)
  | 23 => ("TightHullsModel", "corners", "I", false)
  | 24 => ("TightHullsModel", "corner", "[I", true)
  | 25 => ("TightHullsModel", "named", "[I", true)
  | 26 => ("TightHullsModel", "tried", "[I", true)
  | 27 => ("TightHullsModel", "place", "I", false)
  | 28 => ("TightHullsModel", "clauses", "I", false)
  | 29 => ("TightHullsModel", "clause", "[I", true)
  | 30 => ("TightHullsModel", "told", "[I", true)
  | 31 => ("TightHullsModel", "toldBy", "[I", true)
  | 32 => ("TightHullsModel", "toldNumber", "[I", true)
  | 33 => ("TightHullsModel", "hasImage", "Z", false)
  | _ => ("TightHullsModel", "imaged", "[I", true)
def tyX9 : Nat → FieldType := fun k => match k with
  | 0 => .int
  | 1 => .array .int
  | 2 => .array .int
  | 3 => .array .int
  | 4 => .int
  | 5 => .array .int
  | 6 => .array .int
  | 7 => .int
  | 8 => .array .int
  | 9 => .array .int
  | 10 => .int
  | 11 => .array .int
  | 12 => .array .int
  | 13 => .array .int
  | 14 => .array .int
  | 15 => .int
  | 16 => .array .int
  | 17 => .array .int
  | 18 => .array .long
  | 19 => .array .long
  | 20 => .array .int
  | 21 => .array .int
  | 22 => .array .int
  | 23 => .int
  | 24 => .array .int
  | 25 => .array .int
  | 26 => .array .int
  | 27 => .int
  | 28 => .int
  | 29 => .array .int
  | 30 => .array .int
  | 31 => .array .int
  | 32 => .array .int
  | 33 => .boolean
  | _ => .array .int
def RJ6 : String := "java/lang/Integer"
def TJ6 : u_T := fun k => match k with
  | _ => ("", "", "", false)
def tyJ6 : Nat → FieldType := fun k => match k with
  | _ => .int
def RJ9 : String := "java/lang/Math"
def TJ9 : u_T := fun k => match k with
  | _ => ("", "", "", false)
def tyJ9 : Nat → FieldType := fun k => match k with
  | _ => .int
def RJ10 : String := "java/lang/System"
def TJ10 : u_T := fun k => match k with
  | _ => ("", "", "", false)
def tyJ10 : Nat → FieldType := fun k => match k with
  | _ => .int
def RL : String := "TightHullsLaw"
abbrev vwCl : List vw_C := [(RX0, TX0, 7), (RX1, TX1, 3), (RX2, TX2, 6), (RX3, TX3, 5), (RX4, TX4, 2), (RX5, TX5, 3), (RX6, TX6, 4), (RX8, TX8, 8), (RX9, TX9, 35)]
